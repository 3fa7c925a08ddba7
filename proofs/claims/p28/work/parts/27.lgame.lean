/-! the law: what the class tells is what its rows say -/
section GA
variable {G : xG} {mem mm m' : xM} {rc rt T m m0 i j n s p k x g : Nat} {c t d l : Nat → Int32} {S : gS} {C : cS} {lf ro v nc : Int32} {R : Option Value → xM → Prop}
abbrev gL5 (nc : Int32) : List (Nat × Value) := [(0, .ref 0), (1, .ref 86), (2, .ref 87), (3, .ref 88), (4, .ref 89), (5, .int nc)]
abbrev gL6 (nc : Int32) (k : Nat) : List (Nat × Value) := [(0, .ref 0), (1, .ref 86), (2, .ref 87), (3, .ref 88), (4, .ref 89), (5, .int nc), (6, .int (nI k))]
abbrev gL7 (nc : Int32) (k : Nat) (f : Int32) : List (Nat × Value) := [(0, .ref 0), (1, .ref 86), (2, .ref 87), (3, .ref 88), (4, .ref 89), (5, .int nc), (6, .int (nI k)), (7, .int f)]
/-- how many stand ahead of climber k -/
theorem y_game1 (hI : Iv S T n m) (hL : Lw mem S d l c t) (hk : k < n) {ce sl : Nat} (hcs : ce ≤ 6 ∧ sl ≤ 366) (kk : E G kL_game R ce sl mem 88 (x_L (gL7 nc k (sCn (g_ahd S (nI k)) n))) []) : E G kL_game R ce sl mem 12 (x_L (gL6 nc k)) [] := by
  have n6 := hI.n6
  have en : (nI n).toInt = (n : Int) := nI_toInt (by omega)
  have ek : (nI k).toInt = (k : Int) := nI_toInt (by omega)
  obtain ⟨b1, b2, ⟨b3, b4⟩, hd, hl, hR⟩ := id hL
  have hLa := hL.2.2.1
  have ht1 : t 1 = nI n := hR.t1.trans hI.gc
  have loop : ∀ di i : Nat, n < i + di → i ≤ n → E G kL_game R ce sl (mem) 18 (x_L [(0, .ref 0), (1, .ref 86), (2, .ref 87), (3, .ref 88), (4, .ref 89), (5, .int nc), (6, .int (nI k)), (7, .int (sCn (g_ahd S (nI k)) i)), (8, .int (nI i))]) [] := by
    intro di
    induction di with
    | zero => intro i hi1 hi2; exact absurd hi1 (by omega)
    | succ di ihi =>
      intro i hi1 hi2
      have ei : (nI i).toInt = (i : Int) := nI_toInt (by omega)
      have eci : (nI i).toNatClampNeg = i := nI_clamp (by omega)
      refine E_iload dL_game_18 (by rfl) ?_
      refine E_aload dL_game_20 (by rfl) ?_
      refine E_iconst (v := 1) dL_game_22 (by decide) ?_
      refine E_rd dL_game_23 (by assumption) (show (1 : Int32) = nI 1 from rfl) (by omega) (by first | decide | omega) ht1 ?_
      refine E_icmp_ge (n := _) rfl (tgt := 88) dL_game_24 (by decide) (fun q24 => ?_) (fun q24 => ?_)
      · obtain rfl : i = n := by omega
        exact E_loc (gL7 nc k (sCn (g_ahd S (nI k)) i)) ⟨rfl, rfl, rfl, rfl, rfl, rfl, rfl, rfl, trivial⟩ kk
      · refine E_iload dL_game_27 (by rfl) ?_
        refine E_aload_n dL_game_29 (by rfl) ?_
        refine E_aload dL_game_30 (by rfl) ?_
        refine E_iload dL_game_32 (by rfl) ?_
        refine cs_L_game_34 (Nat.le_of_ble_eq_true rfl) hcs (y_prog hI hR hLa (show i < n by omega)) ?_
        refine E_aload_n dL_game_37 (by rfl) ?_
        refine E_aload dL_game_38 (by rfl) ?_
        refine E_iload dL_game_40 (by rfl) ?_
        refine cs_L_game_42 (Nat.le_of_ble_eq_true rfl) hcs (y_prog hI hR hLa hk) ?_
        refine E_icmp_gt (n := _) rfl (tgt := 74) dL_game_45 (by decide) (fun q45 => ?_) (fun q45 => ?_)
        · refine E_iconst (v := 1) dL_game_74 (by decide) ?_
          refine E_goto (tgt := 79) dL_game_75 (by decide) ?_
          refine E_iadd dL_game_79 ?_
          refine E_istore dL_game_80 (Nat.le_of_ble_eq_true rfl) (by rfl) ?_
          refine E_iinc (d := 1) dL_game_82 (by rfl) (by decide) (Nat.le_of_ble_eq_true rfl) (by rfl) ?_
          refine E_goto (tgt := 18) dL_game_85 (by decide) ?_
          exact E_loc [(0, .ref 0), (1, .ref 86), (2, .ref 87), (3, .ref 88), (4, .ref 89), (5, .int nc), (6, .int (nI k)), (7, .int (sCn (g_ahd S (nI k)) (i + 1))), (8, .int (nI (i + 1)))] ⟨rfl, rfl, rfl, rfl, rfl, rfl, rfl, x_i (by simp only [sCn]; first | rw [if_pos (show g_ahd S (nI k) i by omega)] | rw [if_neg (show ¬ g_ahd S (nI k) i by omega), Int32.add_zero]), x_i (by first | exact nI_1 _ | decide), trivial⟩ (ihi (i + 1) (by omega) (by omega))
        · refine E_aload_n dL_game_48 (by rfl) ?_
          refine E_aload dL_game_49 (by rfl) ?_
          refine E_iload dL_game_51 (by rfl) ?_
          refine cs_L_game_53 (Nat.le_of_ble_eq_true rfl) hcs (y_prog hI hR hLa (show i < n by omega)) ?_
          refine E_aload_n dL_game_56 (by rfl) ?_
          refine E_aload dL_game_57 (by rfl) ?_
          refine E_iload dL_game_59 (by rfl) ?_
          refine cs_L_game_61 (Nat.le_of_ble_eq_true rfl) hcs (y_prog hI hR hLa hk) ?_
          refine E_icmp_ne (n := _) rfl (tgt := 78) dL_game_64 (by decide) (fun q64 => ?_) (fun q64 => ?_)
          · refine E_iconst (v := 0) dL_game_78 (by decide) ?_
            refine E_iadd dL_game_79 ?_
            refine E_istore dL_game_80 (Nat.le_of_ble_eq_true rfl) (by rfl) ?_
            refine E_iinc (d := 1) dL_game_82 (by rfl) (by decide) (Nat.le_of_ble_eq_true rfl) (by rfl) ?_
            refine E_goto (tgt := 18) dL_game_85 (by decide) ?_
            exact E_loc [(0, .ref 0), (1, .ref 86), (2, .ref 87), (3, .ref 88), (4, .ref 89), (5, .int nc), (6, .int (nI k)), (7, .int (sCn (g_ahd S (nI k)) (i + 1))), (8, .int (nI (i + 1)))] ⟨rfl, rfl, rfl, rfl, rfl, rfl, rfl, x_i (by simp only [sCn]; first | rw [if_pos (show g_ahd S (nI k) i by omega)] | rw [if_neg (show ¬ g_ahd S (nI k) i by omega), Int32.add_zero]), x_i (by first | exact nI_1 _ | decide), trivial⟩ (ihi (i + 1) (by omega) (by omega))
          · refine E_iload dL_game_67 (by rfl) ?_
            refine E_iload dL_game_69 (by rfl) ?_
            refine E_icmp_ge (n := _) rfl (tgt := 78) dL_game_71 (by decide) (fun q71 => ?_) (fun q71 => ?_)
            · refine E_iconst (v := 0) dL_game_78 (by decide) ?_
              refine E_iadd dL_game_79 ?_
              refine E_istore dL_game_80 (Nat.le_of_ble_eq_true rfl) (by rfl) ?_
              refine E_iinc (d := 1) dL_game_82 (by rfl) (by decide) (Nat.le_of_ble_eq_true rfl) (by rfl) ?_
              refine E_goto (tgt := 18) dL_game_85 (by decide) ?_
              exact E_loc [(0, .ref 0), (1, .ref 86), (2, .ref 87), (3, .ref 88), (4, .ref 89), (5, .int nc), (6, .int (nI k)), (7, .int (sCn (g_ahd S (nI k)) (i + 1))), (8, .int (nI (i + 1)))] ⟨rfl, rfl, rfl, rfl, rfl, rfl, rfl, x_i (by simp only [sCn]; first | rw [if_pos (show g_ahd S (nI k) i by omega)] | rw [if_neg (show ¬ g_ahd S (nI k) i by omega), Int32.add_zero]), x_i (by first | exact nI_1 _ | decide), trivial⟩ (ihi (i + 1) (by omega) (by omega))
            · refine E_iconst (v := 1) dL_game_74 (by decide) ?_
              refine E_goto (tgt := 79) dL_game_75 (by decide) ?_
              refine E_iadd dL_game_79 ?_
              refine E_istore dL_game_80 (Nat.le_of_ble_eq_true rfl) (by rfl) ?_
              refine E_iinc (d := 1) dL_game_82 (by rfl) (by decide) (Nat.le_of_ble_eq_true rfl) (by rfl) ?_
              refine E_goto (tgt := 18) dL_game_85 (by decide) ?_
              exact E_loc [(0, .ref 0), (1, .ref 86), (2, .ref 87), (3, .ref 88), (4, .ref 89), (5, .int nc), (6, .int (nI k)), (7, .int (sCn (g_ahd S (nI k)) (i + 1))), (8, .int (nI (i + 1)))] ⟨rfl, rfl, rfl, rfl, rfl, rfl, rfl, x_i (by simp only [sCn]; first | rw [if_pos (show g_ahd S (nI k) i by omega)] | rw [if_neg (show ¬ g_ahd S (nI k) i by omega), Int32.add_zero]), x_i (by first | exact nI_1 _ | decide), trivial⟩ (ihi (i + 1) (by omega) (by omega))
  refine E_iconst (v := 0) dL_game_12 (by decide) ?_
  refine E_istore dL_game_13 (Nat.le_of_ble_eq_true rfl) (by rfl) ?_
  refine E_iconst (v := 0) dL_game_15 (by decide) ?_
  refine E_istore dL_game_16 (Nat.le_of_ble_eq_true rfl) (by rfl) ?_
  exact E_loc [(0, .ref 0), (1, .ref 86), (2, .ref 87), (3, .ref 88), (4, .ref 89), (5, .int nc), (6, .int (nI k)), (7, .int (sCn (g_ahd S (nI k)) 0)), (8, .int (nI 0))] ⟨rfl, rfl, rfl, rfl, rfl, rfl, rfl, rfl, rfl, trivial⟩ (loop (n + 1) 0 (by omega) (by omega))
/-- the parts of climber k -/
theorem y_game2 (hC : cAt mem C) (hS : k_gm C = S) (hI : Iv S T n m) (hL : Lw mem S d l c t) (hk : k < n) {f : Int32} {ce sl : Nat} (hcs : ce ≤ 6 ∧ sl ≤ 366) (kk : E G kL_game R ce sl mem 127 (x_L (gL7 nc k f)) []) : E G kL_game R ce sl mem 88 (x_L (gL7 nc k f)) [] := by
  have n6 := hI.n6
  obtain ⟨b1, b2, ⟨b3, b4⟩, hd, hl, hR⟩ := id hL
  have a0 := hC.1
  have hc6 : (g_cl (k_gm C)).toInt ≤ 6 := by rw [hS, hI.gcI]; omega
  have e6 : (6 : Int32).toInt = 6 := by decide
  have hkc : ∀ i, i < 6 → gPC (k_gm C) (nI k) (nI i) = c (6 * k + i) := fun i hi => by rw [hS]; exact gPC_col hI hR hk hi
  have ecol : ∀ i, (6 : Int32) * nI k + nI i = nI (6 * k + i) := fun i => ix k i
  have loop : ∀ di i : Nat, 6 < i + di → i ≤ 6 → E G kL_game R ce sl (mem) 91 (x_L [(0, .ref 0), (1, .ref 86), (2, .ref 87), (3, .ref 88), (4, .ref 89), (5, .int nc), (6, .int (nI k)), (7, .int f), (8, .int (nI i))]) [] := by
    intro di
    induction di with
    | zero => intro i hi1 hi2; exact absurd hi1 (by omega)
    | succ di ihi =>
      intro i hi1 hi2
      have ei : (nI i).toInt = (i : Int) := nI_toInt (by omega)
      have eci : (nI i).toNatClampNeg = i := nI_clamp (by omega)
      refine E_iload dL_game_91 (by rfl) ?_
      refine E_bipush (v := 6) dL_game_93 (by decide) ?_
      refine E_icmp_ge (n := 6) (by decide) (tgt := 127) dL_game_95 (by decide) (fun q95 => ?_) (fun q95 => ?_)
      · exact E_loc (gL7 nc k f) ⟨rfl, rfl, rfl, rfl, rfl, rfl, rfl, rfl, trivial⟩ kk
      · refine E_aload_n dL_game_98 (by rfl) ?_
        refine E_iload dL_game_99 (by rfl) ?_
        refine E_iload dL_game_101 (by rfl) ?_
        refine cs_L_game_103 (by assumption) (Nat.le_of_ble_eq_true rfl) hcs (k_climber hC hc6 (nI k) (nI i)) ?_
        refine E_aload_n dL_game_106 (by rfl) ?_
        refine E_bipush (v := 6) dL_game_107 (by decide) ?_
        refine E_iload dL_game_109 (by rfl) ?_
        refine E_imul dL_game_111 ?_
        refine E_iload dL_game_112 (by rfl) ?_
        refine E_iadd dL_game_114 ?_
        refine E_rd dL_game_115 (by assumption) (ecol i) (by omega) (by first | decide | omega) (hkc i (by omega)).symm ?_
        refine E_icmp_eq (n := _) rfl (tgt := 121) dL_game_116 (by decide) (fun q116 => ?_) (fun q116 => ?_)
        · refine E_iinc (d := 1) dL_game_121 (by rfl) (by decide) (Nat.le_of_ble_eq_true rfl) (by rfl) ?_
          refine E_goto (tgt := 91) dL_game_124 (by decide) ?_
          exact E_loc [(0, .ref 0), (1, .ref 86), (2, .ref 87), (3, .ref 88), (4, .ref 89), (5, .int nc), (6, .int (nI k)), (7, .int f), (8, .int (nI (i + 1)))] ⟨rfl, rfl, rfl, rfl, rfl, rfl, rfl, rfl, x_i (by first | exact nI_1 _ | decide), trivial⟩ (ihi (i + 1) (by omega) (by omega))
        · exact absurd rfl q116
  refine E_iconst (v := 0) dL_game_88 (by decide) ?_
  refine E_istore dL_game_89 (Nat.le_of_ble_eq_true rfl) (by rfl) ?_
  exact E_loc [(0, .ref 0), (1, .ref 86), (2, .ref 87), (3, .ref 88), (4, .ref 89), (5, .int nc), (6, .int (nI k)), (7, .int f), (8, .int (nI 0))] ⟨rfl, rfl, rfl, rfl, rfl, rfl, rfl, rfl, rfl, trivial⟩ (loop (6 + 1) 0 (by omega) (by omega))
theorem y_game3 (hC : cAt mem C) (hS : k_gm C = S) (hI : Iv S T n m) (hL : Lw mem S d l c t) (hk : k < n) {ce sl : Nat} (hcs : ce ≤ 5 ∧ sl ≤ 305) (kk : ∀ F, E G kL_game R (ce + 1) (sl + 61) (mem ++ [g_a 0 61 F]) 3 (x_L (gL6 nc (k + 1))) []) : E G kL_game R ce sl mem 127 (x_L (gL7 nc k (sCn (g_ahd S (nI k)) n))) [] := by
  have n6 := hI.n6
  have t60 := hI.t60
  obtain ⟨b1, b2, ⟨b3, b4⟩, hd, hl, hR⟩ := id hL
  have hLa := hL.2.2.1
  have a0 := hC.1
  have ek : (nI k).toInt = (k : Int) := nI_toInt (by omega)
  have hc6 : (g_cl (k_gm C)).toInt ≤ 6 := by rw [hS, hI.gcI]; omega
  have hk6 : gPC (k_gm C) (nI k) 6 = gPr S (nI k) := by rw [hS]; exact gPC_6 hI hk
  have z1 := k_climber (G := G) hC hc6 (nI k) 6
  rw [hk6] at z1
  have z2 := k_rank (G := G) hC (by rw [hS]; exact hI.gc) n6 (sCn (g_ahd S (nI k)) n)
  rw [hS, rank_at n6 hk] at z2
  have z3 := k_rollsToTop (G := G) hC (by rw [hS]; exact hI.gt) t60 hc6 (nI k)
  obtain ⟨pk, pk1⟩ := hI.plN (i := k) (by omega)
  rw [hS, if_pos ⟨by omega, by rw [hI.gcI]; omega⟩, nI_clamp (by omega), pk] at z3
  have hcs2 : ce ≤ 6 ∧ sl ≤ 366 := by omega
  refine E_aload_n dL_game_127 (by rfl) ?_
  refine E_iload dL_game_128 (by rfl) ?_
  refine E_bipush (v := 6) dL_game_130 (by decide) ?_
  refine cs_L_game_132 (by assumption) (Nat.le_of_ble_eq_true rfl) hcs2 z1 ?_
  refine E_aload_n dL_game_135 (by rfl) ?_
  refine E_aload dL_game_136 (by rfl) ?_
  refine E_iload dL_game_138 (by rfl) ?_
  refine cs_L_game_140 (Nat.le_of_ble_eq_true rfl) hcs2 (y_prog hI hR hLa hk) ?_
  refine E_icmp_ne (n := _) rfl (tgt := 179) dL_game_143 (by decide) (fun q143 => ?_) (fun q143 => ?_)
  · exact absurd rfl q143
  · refine E_aload_n dL_game_146 (by rfl) ?_
    refine E_iload dL_game_147 (by rfl) ?_
    refine cs_L_game_149 (by assumption) (Nat.le_of_ble_eq_true rfl) hcs2 z2 ?_
    refine E_iload dL_game_152 (by rfl) ?_
    refine E_icmp_ne (n := _) rfl (tgt := 179) dL_game_154 (by decide) (fun q154 => ?_) (fun q154 => ?_)
    · exact absurd rfl q154
    · refine E_aload_n dL_game_157 (by rfl) ?_
      refine E_iload dL_game_158 (by rfl) ?_
      refine cs_L_game_160 (by assumption) (Nat.le_of_ble_eq_true rfl) hcs2 z3 ?_
      refine E_aload_n dL_game_163 (by rfl) ?_
      refine E_aload dL_game_164 (by rfl) ?_
      refine E_aload_n dL_game_166 (by rfl) ?_
      refine E_bipush (v := 6) dL_game_167 (by decide) ?_
      refine E_iload dL_game_169 (by rfl) ?_
      refine E_imul dL_game_171 ?_
      refine E_rd dL_game_172 (by assumption) (ix0 k) (by omega) (by first | decide | omega) ((hR.pl k (by omega)).trans pk) ?_
      refine cw_L_game_173 (by omega) (Nat.le_of_ble_eq_true rfl) (y_fewest hI hd b1 b4 (hR.t0.trans hI.gt) pk1) (fun m173 h173 => ?_)
      obtain ⟨F, rfl⟩ := h173
      refine E_icmp_eq (n := _) rfl (tgt := 181) dL_game_176 (by decide) (fun q176 => ?_) (fun q176 => ?_)
      · refine E_iinc (d := 1) dL_game_181 (by rfl) (by decide) (Nat.le_of_ble_eq_true rfl) (by rfl) ?_
        refine E_goto (tgt := 3) dL_game_184 (by decide) ?_
        exact E_loc (gL6 nc (k + 1)) ⟨rfl, rfl, rfl, rfl, rfl, rfl, x_i (nI_1 k), trivial⟩ (kk F)
      · exact absurd rfl q176
/-- all climbers -/
theorem y_gameK (hI : Iv S T n m) (kk : ∀ mem, cAt mem C → Lw mem S d l c t → (∃ xs, mem = mm ++ xs) → E G kL_game R n (61 * n) mem 187 (x_L (gL5 nc)) []) (hS : k_gm C = S) : ∀ (u k : Nat) (mem : xM), n = k + u → cAt mem C → Lw mem S d l c t → (∃ xs, mem = mm ++ xs) → E G kL_game R k (61 * k) mem 3 (x_L (gL6 nc k)) [] := by
  have n6 := hI.n6
  have en : (nI n).toInt = (n : Int) := nI_toInt (by omega)
  intro u
  induction u with
  | zero =>
    intro k mem hk hC hL hx
    obtain rfl : n = k := by omega
    obtain ⟨b1, b2, ⟨b3, b4⟩, hd, hl, hR⟩ := id hL
    refine E_iload dL_game_3 (by rfl) ?_
    refine E_aload dL_game_5 (by rfl) ?_
    refine E_iconst (v := 1) dL_game_7 (by decide) ?_
    refine E_rd dL_game_8 (by assumption) (show (1 : Int32) = nI 1 from rfl) (by omega) (by first | decide | omega) (hR.t1.trans hI.gc) ?_
    refine E_icmp_ge (n := _) rfl (tgt := 187) dL_game_9 (by decide) (fun q9 => ?_) (fun q9 => ?_)
    · exact E_loc (gL5 nc) ⟨rfl, rfl, rfl, rfl, rfl, rfl, trivial⟩ (kk mem hC hL hx)
    · exact absurd (Int.le_refl _) q9
  | succ u ih =>
    intro k mem hk hC hL hx
    have ek : (nI k).toInt = (k : Int) := nI_toInt (by omega)
    obtain ⟨b1, b2, ⟨b3, b4⟩, hd, hl, hR⟩ := id hL
    have go : E G kL_game R k (61 * k) mem 12 (x_L (gL6 nc k)) [] := by
      refine y_game1 hI hL (by omega) (by omega) (y_game2 hC hS hI hL (by omega) (by omega) (y_game3 hC hS hI hL (by omega) (by omega) (fun F => ?_)))
      have q := ih (k + 1) (mem ++ [g_a 0 61 F]) (by omega) (cAt_app hC _) (hL.app _) (by obtain ⟨xs, e⟩ := hx; exact ⟨xs ++ [g_a 0 61 F], by rw [e, List.append_assoc]⟩)
      rw [show 61 * (k + 1) = 61 * k + 61 by omega] at q
      exact q
    refine E_iload dL_game_3 (by rfl) ?_
    refine E_aload dL_game_5 (by rfl) ?_
    refine E_iconst (v := 1) dL_game_7 (by decide) ?_
    refine E_rd dL_game_8 (by assumption) (show (1 : Int32) = nI 1 from rfl) (by omega) (by first | decide | omega) (hR.t1.trans hI.gc) ?_
    refine E_icmp_ge (n := _) rfl (tgt := 187) dL_game_9 (by decide) (fun q9 => ?_) (fun q9 => ?_)
    · exact absurd q9 (by omega)
    · exact go
end GA
