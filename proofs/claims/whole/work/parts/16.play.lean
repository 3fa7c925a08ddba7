/-! play -/
section P1
variable {G : xG} {mem : xM} {C : cS} {S T : gS} {t n : Nat} {f : Nat → Int32}
def tAN (f : Nat → Int32) (n : Nat) : Nat → Nat → Nat
  | 0, _ => n
  | d + 1, i => if (f i).toInt = 62 then i + 1 else tAN f n d (i + 1)
theorem tArr_eq (f : Nat → Int32) (n : Nat) : ∀ d i, tArr f n d i = nI (tAN f n d i)
  | 0, i => rfl
  | d + 1, i => by
    rw [tArr, tAN]
    by_cases h : (f i).toInt = 62
    · rw [if_pos h, if_pos h]
    · rw [if_neg h, if_neg h]; exact tArr_eq f n d (i + 1)
theorem tAN_le (f : Nat → Int32) (n : Nat) : ∀ d i, i + d ≤ n → tAN f n d i ≤ n
  | 0, i, h => Nat.le_refl _
  | d + 1, i, h => by
    rw [tAN]
    by_cases h2 : (f i).toInt = 62
    · rw [if_pos h2]; omega
    · rw [if_neg h2]; exact tAN_le f n d (i + 1) (by omega)
abbrev gTT (S : gS) : Nat := (g_top S).toNatClampNeg
abbrev gNN (S : gS) : Nat := (g_cl S).toNatClampNeg
/-- the top and the number of climbers within their bounds -/
def gW (S : gS) : Prop := ∃ t n : Nat, g_top S = nI t ∧ 10 ≤ t ∧ t ≤ 60 ∧ g_cl S = nI n ∧ n ≤ 6
theorem gW_tt (h : gW S) : g_top S = nI (gTT S) ∧ 10 ≤ gTT S ∧ gTT S ≤ 60 ∧ g_cl S = nI (gNN S) ∧ gNN S ≤ 6 := by
  obtain ⟨t, n, h1, h2, h3, h4, h5⟩ := h
  have e1 : gTT S = t := by unfold gTT; rw [h1]; exact nI_clamp (by omega)
  have e2 : gNN S = n := by unfold gNN; rw [h4]; exact nI_clamp (by omega)
  rw [e1, e2]
  exact ⟨h1, h2, h3, h4, h5⟩
def cMv (f : Nat → Int32) (n : Nat) (S : gS) (a : Nat) : Int32 × gS :=
  if (f a).toInt = 112 then (if g_isCl S (g_mv S) then (g_mv (gNext S), gNext S) else (-3, S))
  else if (f a).toInt = 106 then (if 6 ≤ (g_cl S).toInt then (-4, S) else (g_cl S + 1 - 1, gAdd S))
  else if (f a).toInt = 99 then (if gWhyL S (gTT S) (gNN S) (tNum f n 62 (a + 1) 0) (tNum f n 62 (tAN f n (n - a) a) 0) = 0 then (sCn (g_up (g_le (gLay S (tNum f n 62 (a + 1) 0) (tNum f n 62 (tAN f n (n - a) a) 0)))) (gTT S), gLay S (tNum f n 62 (a + 1) 0) (tNum f n 62 (tAN f n (n - a) a) 0)) else (gWhyL S (gTT S) (gNN S) (tNum f n 62 (a + 1) 0) (tNum f n 62 (tAN f n (n - a) a) 0), S))
  else if (f a).toInt = 108 then (if gWhyP S (tNum f n 62 (a + 1) 0) = 0 then (sCn (g_lan (g_la (gPutL S (tNum f n 62 (a + 1) 0) 1))) (gTT S), gPutL S (tNum f n 62 (a + 1) 0) 1) else (gWhyP S (tNum f n 62 (a + 1) 0), S))
  else if ¬ (1 ≤ (tNum f n 62 a 0).toInt ∧ (tNum f n 62 a 0).toInt ≤ 6) then (-2, S) else if ¬ g_isCl S (g_mv S) then (-3, S) else (g_pl (gRoll S (tNum f n 62 a 0) (gNN S)) (g_mv S).toNatClampNeg, gRoll S (tNum f n 62 a 0) (gNN S))
theorem gW_mv (h : gW S) (f : Nat → Int32) (n a : Nat) : gW (cMv f n S a).2 := by
  have hN : gW (gNext S) := by
    obtain ⟨t, m, h1, h2⟩ := h
    have e := gNext_fix S
    exact ⟨t, m, e.2.2.2.2.2.2.2.1.trans h1, h2.1, h2.2.1, e.2.2.2.2.2.2.2.2.1.trans h2.2.2.1, h2.2.2.2⟩
  unfold cMv
  by_cases c1 : (f a).toInt = 112
  · rw [if_pos c1]
    by_cases c : g_isCl S (g_mv S)
    · rw [if_pos c]; exact hN
    · rw [if_neg c]; exact h
  rw [if_neg c1]
  by_cases c2 : (f a).toInt = 106
  · rw [if_pos c2]
    by_cases c : 6 ≤ (g_cl S).toInt
    · rw [if_pos c]; exact h
    · rw [if_neg c]
      obtain ⟨t, m, h1, h2, h3, h4, h5⟩ := h
      rw [h4, nI_toInt (by omega)] at c
      exact ⟨t, m + 1, h1, h2, h3, (congrArg (fun z => z + 1) h4).trans (nI_1 m), by omega⟩
  rw [if_neg c2]
  by_cases c3 : (f a).toInt = 99
  · rw [if_pos c3]
    split
    · exact h
    · exact h
  rw [if_neg c3]
  by_cases c4 : (f a).toInt = 108
  · rw [if_pos c4]
    split
    · exact h
    · exact h
  rw [if_neg c4]
  split
  · exact h
  · split
    · exact h
    · obtain ⟨t, m, h1, h2⟩ := h
      have e := gRoll_fix S (tNum f n 62 a 0) (gNN S)
      exact ⟨t, m, e.2.2.1.trans h1, h2.1, h2.2.1, e.2.2.2.1.trans h2.2.2.1, h2.2.2.2⟩
theorem c_makeMoveAt (h : cAt mem C) (hf : tOk (k_f C) (k_n C)) (hn : k_n C ≤ 60) (hS : gW S) (a : Nat) (ha : a < k_n C) : Dt G kX3_makeMoveAt [.ref 0, .int (nI a)] (gPut mem 1 S) (some (.int (cMv (k_f C) (k_n C) S a).1)) (gPut mem 1 (cMv (k_f C) (k_n C) S a).2) := by
  obtain ⟨w1, w2, w3, w4, w5⟩ := gW_tt hS
  have hA := cAt_gm h S
  have a0 := hA.1
  have g0 : (gPut mem 1 S)[1]? = some (g_o 1 S) := hA.2.1.1
  have h6 : (gPut mem 1 S)[84]? = some (t_o (nI (k_n C))) := hA.2.2.2.2.2.2.1
  have h7 : (gPut mem 1 S)[85]? = some (t_s (k_f C)) := hA.2.2.2.2.2.2.2
  have ht' : (g_top S).toInt = (gTT S : Int) := (congrArg Int32.toInt w1).trans (nI_toInt (by omega))
  have hc' : (g_cl S).toInt = (gNN S : Int) := (congrArg Int32.toInt w4).trans (nI_toInt (by omega))
  have ea : (nI a).toInt = (a : Int) := nI_toInt (by omega)
  have es : tSg (k_f C) (k_n C) (nI a) = k_f C a := by unfold tSg; rw [if_pos (by omega), nI_clamp (by omega)]
  have ea1 : nI a + 1 = nI (a + 1) := nI_1 a
  have hb := tAN_le (k_f C) (k_n C) (k_n C - a) a (by omega)
  have n1 := c_numberAt (G := G) h6 h7 hn hf (a + 1) (by omega)
  have n2 := c_numberAt (G := G) h6 h7 hn hf (tAN (k_f C) (k_n C) (k_n C - a) a) (by omega)
  have n3 := c_numberAt (G := G) h6 h7 hn hf a (by omega)
  have bA := c_behindArrow (G := G) h6 h7 hn hf a (by omega)
  rw [tArr_eq] at bA
  rw [← ea1] at n1
  have g1 := h.2.1
  have gS1 : gAt (gPut mem 1 S) 1 S := gAt_put g1 S
  have oLay : ∀ u l : Int32, Dt G kX0_layCarpet [.ref 1, .int u, .int l] (gPut mem 1 S) (some (.int (if gWhyL S (gTT S) (gNN S) u l = 0 then sCn (g_up (g_le (gLay S u l))) (gTT S) else gWhyL S (gTT S) (gNN S) u l))) (gPut mem 1 (if gWhyL S (gTT S) (gNN S) u l = 0 then gLay S u l else S)) := by
    intro u l
    by_cases hw : gWhyL S (gTT S) (gNN S) u l = 0
    · rw [if_pos hw, if_pos hw]; exact c_layCarpet_ok g1 w1 w3 w4 w5 u l hw
    · rw [if_neg hw, if_neg hw]; exact c_layCarpet_no gS1 w1 w3 w4 w5 u l hw
  have oPut : ∀ u : Int32, Dt G kX0_putLanding [.ref 1, .int u] (gPut mem 1 S) (some (.int (if gWhyP S u = 0 then sCn (g_lan (g_la (gPutL S u 1))) (gTT S) else gWhyP S u))) (gPut mem 1 (if gWhyP S u = 0 then gPutL S u 1 else S)) := by
    intro u
    by_cases hw : gWhyP S u = 0
    · rw [if_pos hw, if_pos hw]; exact c_putLanding_ok g1 w1 w3 u hw
    · rw [if_neg hw, if_neg hw]; exact c_putLanding_no gS1 (by omega) u hw
  have oRoll : ∀ u : Int32, Dt G kX0_makeRoll [.ref 1, .int u] (gPut mem 1 S) (some (.int (if ¬ (1 ≤ u.toInt ∧ u.toInt ≤ 6) then -2 else if ¬ g_isCl S (g_mv S) then -3 else g_pl (gRoll S u (gNN S)) (g_mv S).toNatClampNeg))) (gPut mem 1 (if ¬ (1 ≤ u.toInt ∧ u.toInt ≤ 6) then S else if ¬ g_isCl S (g_mv S) then S else gRoll S u (gNN S))) := by
    intro u
    by_cases hu : 1 ≤ u.toInt ∧ u.toInt ≤ 6
    · rw [if_neg (show ¬¬ (1 ≤ u.toInt ∧ u.toInt ≤ 6) from fun z => z hu), if_neg (show ¬¬ (1 ≤ u.toInt ∧ u.toInt ≤ 6) from fun z => z hu)]
      by_cases hm : g_isCl S (g_mv S)
      · rw [if_neg (show ¬¬ g_isCl S (g_mv S) from fun z => z hm), if_neg (show ¬¬ g_isCl S (g_mv S) from fun z => z hm)]; exact c_makeRoll_ok g1 (by omega) w4 w5 hm u hu
      · rw [if_pos hm, if_pos hm]; exact c_makeRoll_no2 gS1 u hu hm
    · rw [if_pos hu, if_pos hu]; exact c_makeRoll_no1 gS1 u hu
  have oPass : Dt G kX0_makePass [.ref 1] (gPut mem 1 S) (some (.int (if g_isCl S (g_mv S) then g_mv (gNext S) else -3))) (gPut mem 1 (if g_isCl S (g_mv S) then gNext S else S)) := by
    by_cases hm : g_isCl S (g_mv S)
    · rw [if_pos hm, if_pos hm]; exact c_makePass_ok g1 (by omega) hm
    · rw [if_neg hm, if_neg hm]; exact c_makePass_no gS1 hm
  have oAdd : Dt G kX0_addClimber [.ref 1] (gPut mem 1 S) (some (.int (if 6 ≤ (g_cl S).toInt then -4 else g_cl S + 1 - 1))) (gPut mem 1 (if 6 ≤ (g_cl S).toInt then S else gAdd S)) := by
    by_cases hm : 6 ≤ (g_cl S).toInt
    · rw [if_pos hm, if_pos hm]; exact c_addClimber_no gS1 hm
    · rw [if_neg hm, if_neg hm]; exact c_addClimber_ok g1 hm
  refine Ct_of (by decide) (Nat.le_of_ble_eq_true rfl) ?_
  unfold cMv
  refine E_aload_n dX3_makeMoveAt_0 (by rfl) ?_
  refine gf_X3_35 dX3_makeMoveAt_1 rfl (by assumption) (by rfl) ?_
  refine E_iload_n dX3_makeMoveAt_4 (by rfl) ?_
  refine cs_X3_makeMoveAt_5 (by assumption) (Nat.le_of_ble_eq_true rfl) (c_signAt h6 h7 hn hf (nI a)) ?_
  rw [es]
  refine E_istore_n dX3_makeMoveAt_8 (Nat.le_of_ble_eq_true rfl) (by rfl) ?_
  refine E_iload_n dX3_makeMoveAt_9 (by rfl) ?_
  refine E_bipush (v := 112) dX3_makeMoveAt_10 (by decide) ?_
  refine E_icmp_ne (n := 112) (by decide) (tgt := 23) dX3_makeMoveAt_12 (by decide) (fun q12 => ?_) (fun q12 => ?_)
  · refine E_iload_n dX3_makeMoveAt_23 (by rfl) ?_
    refine E_bipush (v := 106) dX3_makeMoveAt_24 (by decide) ?_
    refine E_icmp_ne (n := 106) (by decide) (tgt := 37) dX3_makeMoveAt_26 (by decide) (fun q26 => ?_) (fun q26 => ?_)
    · refine E_iload_n dX3_makeMoveAt_37 (by rfl) ?_
      refine E_bipush (v := 99) dX3_makeMoveAt_38 (by decide) ?_
      refine E_icmp_ne (n := 99) (by decide) (tgt := 76) dX3_makeMoveAt_40 (by decide) (fun q40 => ?_) (fun q40 => ?_)
      · refine E_iload_n dX3_makeMoveAt_76 (by rfl) ?_
        refine E_bipush (v := 108) dX3_makeMoveAt_77 (by decide) ?_
        refine E_icmp_ne (n := 108) (by decide) (tgt := 100) dX3_makeMoveAt_79 (by decide) (fun q79 => ?_) (fun q79 => ?_)
        · refine E_aload_n dX3_makeMoveAt_100 (by rfl) ?_
          refine gf_X3_10 dX3_makeMoveAt_101 rfl (by assumption) (by rfl) ?_
          refine E_aload_n dX3_makeMoveAt_104 (by rfl) ?_
          refine gf_X3_35 dX3_makeMoveAt_105 rfl (by assumption) (by rfl) ?_
          refine E_iload_n dX3_makeMoveAt_108 (by rfl) ?_
          refine cs_X3_makeMoveAt_109 (by assumption) (Nat.le_of_ble_eq_true rfl) n3 ?_
          refine cs_X3_makeMoveAt_112 (by assumption) (Nat.le_of_ble_eq_true rfl) (oRoll _) ?_
          refine E_iret dX3_makeMoveAt_115 rfl rfl (Nat.zero_le _) (Nat.zero_le _) ?_
          refine ⟨?_, ?_⟩
          · rw [if_neg q12, if_neg q26, if_neg q40, if_neg q79]; split <;> (try split) <;> rfl
          · rw [if_neg q12, if_neg q26, if_neg q40, if_neg q79]; split <;> (try split) <;> rfl
        · refine E_aload_n dX3_makeMoveAt_82 (by rfl) ?_
          refine gf_X3_10 dX3_makeMoveAt_83 rfl (by assumption) (by rfl) ?_
          refine E_aload_n dX3_makeMoveAt_86 (by rfl) ?_
          refine gf_X3_35 dX3_makeMoveAt_87 rfl (by assumption) (by rfl) ?_
          refine E_iload_n dX3_makeMoveAt_90 (by rfl) ?_
          refine E_iconst (v := 1) dX3_makeMoveAt_91 (by decide) ?_
          refine E_iadd dX3_makeMoveAt_92 ?_
          refine cs_X3_makeMoveAt_93 (by assumption) (Nat.le_of_ble_eq_true rfl) n1 ?_
          refine cs_X3_makeMoveAt_96 (by assumption) (Nat.le_of_ble_eq_true rfl) (oPut _) ?_
          refine E_iret dX3_makeMoveAt_99 rfl rfl (Nat.zero_le _) (Nat.zero_le _) ?_
          refine ⟨?_, ?_⟩
          · rw [if_neg q12, if_neg q26, if_neg q40, if_pos q79]; split <;> rfl
          · rw [if_neg q12, if_neg q26, if_neg q40, if_pos q79]; split <;> rfl
      · refine E_aload_n dX3_makeMoveAt_43 (by rfl) ?_
        refine gf_X3_10 dX3_makeMoveAt_44 rfl (by assumption) (by rfl) ?_
        refine E_aload_n dX3_makeMoveAt_47 (by rfl) ?_
        refine gf_X3_35 dX3_makeMoveAt_48 rfl (by assumption) (by rfl) ?_
        refine E_iload_n dX3_makeMoveAt_51 (by rfl) ?_
        refine E_iconst (v := 1) dX3_makeMoveAt_52 (by decide) ?_
        refine E_iadd dX3_makeMoveAt_53 ?_
        refine cs_X3_makeMoveAt_54 (by assumption) (Nat.le_of_ble_eq_true rfl) n1 ?_
        refine E_aload_n dX3_makeMoveAt_57 (by rfl) ?_
        refine gf_X3_35 dX3_makeMoveAt_58 rfl (by assumption) (by rfl) ?_
        refine E_aload_n dX3_makeMoveAt_61 (by rfl) ?_
        refine gf_X3_35 dX3_makeMoveAt_62 rfl (by assumption) (by rfl) ?_
        refine E_iload_n dX3_makeMoveAt_65 (by rfl) ?_
        refine cs_X3_makeMoveAt_66 (by assumption) (Nat.le_of_ble_eq_true rfl) bA ?_
        refine cs_X3_makeMoveAt_69 (by assumption) (Nat.le_of_ble_eq_true rfl) n2 ?_
        refine cs_X3_makeMoveAt_72 (by assumption) (Nat.le_of_ble_eq_true rfl) (oLay _ _) ?_
        refine E_iret dX3_makeMoveAt_75 rfl rfl (Nat.zero_le _) (Nat.zero_le _) ?_
        refine ⟨?_, ?_⟩
        · rw [if_neg q12, if_neg q26, if_pos q40]; split <;> rfl
        · rw [if_neg q12, if_neg q26, if_pos q40]; split <;> rfl
    · refine E_aload_n dX3_makeMoveAt_29 (by rfl) ?_
      refine gf_X3_10 dX3_makeMoveAt_30 rfl (by assumption) (by rfl) ?_
      refine cs_X3_makeMoveAt_33 (by assumption) (Nat.le_of_ble_eq_true rfl) oAdd ?_
      refine E_iret dX3_makeMoveAt_36 rfl rfl (Nat.zero_le _) (Nat.zero_le _) ?_
      refine ⟨?_, ?_⟩
      · rw [if_neg q12, if_pos q26]; split <;> rfl
      · rw [if_neg q12, if_pos q26]; split <;> rfl
  · refine E_aload_n dX3_makeMoveAt_15 (by rfl) ?_
    refine gf_X3_10 dX3_makeMoveAt_16 rfl (by assumption) (by rfl) ?_
    refine cs_X3_makeMoveAt_19 (by assumption) (Nat.le_of_ble_eq_true rfl) oPass ?_
    refine E_iret dX3_makeMoveAt_22 rfl rfl (Nat.zero_le _) (Nat.zero_le _) ?_
    refine ⟨?_, ?_⟩
    · rw [if_pos q12]; split <;> rfl
    · rw [if_pos q12]; split <;> rfl
abbrev tMS (f : Nat → Int32) (a : Nat) : Prop := a = 0 ∨ (f (a - 1)).toInt = 44
/-- the moves from a place on -/
def cMs (f : Nat → Int32) (n : Nat) : Nat → Nat → Nat → gS → Nat × gS
  | 0, _, m, S => (m, S)
  | d + 1, a, m, S => if tMS f a then (if (cMv f n S a).1.toInt < 0 then (m, (cMv f n S a).2) else cMs f n d (a + 1) (m + 1) (cMv f n S a).2) else cMs f n d (a + 1) m S
theorem cMs_le (f : Nat → Int32) (n : Nat) : ∀ d a m S, (cMs f n d a m S).1 ≤ m + d
  | 0, a, m, S => Nat.le_refl _
  | d + 1, a, m, S => by
    rw [cMs]
    by_cases h1 : tMS f a
    · rw [if_pos h1]
      by_cases h2 : (cMv f n S a).1.toInt < 0
      · rw [if_pos h2]; show m ≤ _; omega
      · rw [if_neg h2]; have := cMs_le f n d (a + 1) (m + 1) (cMv f n S a).2; omega
    · rw [if_neg h1]; have := cMs_le f n d (a + 1) m S; omega
theorem c_makeMoves (h : cAt mem C) (hf : tOk (k_f C) (k_n C)) (hn : k_n C ≤ 60) (hS : gW S) : Dt G kX3_makeMovesOfText [.ref 0] (gPut mem 1 S) (some (.int (nI (cMs (k_f C) (k_n C) (k_n C) 0 0 S).1))) (gPut mem 1 (cMs (k_f C) (k_n C) (k_n C) 0 0 S).2) := by
  have en : (nI (k_n C)).toInt = (k_n C : Int) := nI_toInt (by omega)
  have loop : ∀ (d a m : Nat) (S : gS) (R : Option Value → xM → Prop), R (some (.int (nI (cMs (k_f C) (k_n C) d a m S).1))) (gPut mem 1 (cMs (k_f C) (k_n C) d a m S).2) → a + d = k_n C → m ≤ a → gW S → E G kX3_makeMovesOfText R 0 0 (gPut mem 1 S) 4 (x_L [(0, .ref 0), (1, .int (nI m)), (2, .int (nI a))]) [] := by
    intro d
    induction d with
    | zero =>
      intro a m S R hR had hma hS
      have hA := cAt_gm h S
      have a0 := hA.1
      have h6 : (gPut mem 1 S)[84]? = some (t_o (nI (k_n C))) := hA.2.2.2.2.2.2.1
      have ea : (nI a).toInt = (a : Int) := nI_toInt (by omega)
      refine E_iload_n dX3_makeMovesOfText_4 (by rfl) ?_
      refine E_aload_n dX3_makeMovesOfText_5 (by rfl) ?_
      refine gf_X3_35 dX3_makeMovesOfText_6 rfl (by assumption) (by rfl) ?_
      refine gf_X3_159 dX3_makeMovesOfText_9 rfl (by assumption) (by rfl) ?_
      refine E_icmp_ge (n := _) rfl (tgt := 48) dX3_makeMovesOfText_12 (by decide) (fun q12 => ?_) (fun q12 => ?_)
      · refine E_iload_n dX3_makeMovesOfText_48 (by rfl) ?_
        refine E_iret dX3_makeMovesOfText_49 rfl rfl (Nat.zero_le _) (Nat.zero_le _) ?_
        exact hR
      · exact absurd ea (by omega)
    | succ d ih =>
      intro a m S R hR had hma hS
      have hA := cAt_gm h S
      have a0 := hA.1
      have h6 : (gPut mem 1 S)[84]? = some (t_o (nI (k_n C))) := hA.2.2.2.2.2.2.1
      have h7 : (gPut mem 1 S)[85]? = some (t_s (k_f C)) := hA.2.2.2.2.2.2.2
      have ea : (nI a).toInt = (a : Int) := nI_toInt (by omega)
      have hms : ((nI a).toInt = 0 ∨ (tSg (k_f C) (k_n C) (nI a - 1)).toInt = 44) ↔ tMS (k_f C) a := by
        rw [ea]
        by_cases h0 : a = 0
        · exact ⟨fun _ => Or.inl h0, fun _ => Or.inl (by omega)⟩
        · have e1 : nI a - 1 = nI (a - 1) := pk_sub (show 1 ≤ a by omega)
          have e2 : (nI (a - 1)).toInt = ((a - 1 : Nat) : Int) := nI_toInt (by omega)
          have e3 : tSg (k_f C) (k_n C) (nI a - 1) = k_f C (a - 1) := by rw [e1]; unfold tSg; rw [if_pos (by omega), nI_clamp (by omega)]
          rw [e3]
          exact ⟨fun z => z.elim (fun z => absurd z (by omega)) Or.inr, fun z => z.elim (fun z => absurd z h0) Or.inr⟩
      rw [cMs] at hR
      refine E_iload_n dX3_makeMovesOfText_4 (by rfl) ?_
      refine E_aload_n dX3_makeMovesOfText_5 (by rfl) ?_
      refine gf_X3_35 dX3_makeMovesOfText_6 rfl (by assumption) (by rfl) ?_
      refine gf_X3_159 dX3_makeMovesOfText_9 rfl (by assumption) (by rfl) ?_
      refine E_icmp_ge (n := _) rfl (tgt := 48) dX3_makeMovesOfText_12 (by decide) (fun q12 => ?_) (fun q12 => ?_)
      · exact absurd ea (by omega)
      · refine E_aload_n dX3_makeMovesOfText_15 (by rfl) ?_
        refine gf_X3_35 dX3_makeMovesOfText_16 rfl (by assumption) (by rfl) ?_
        refine E_iload_n dX3_makeMovesOfText_19 (by rfl) ?_
        refine cs_X3_makeMovesOfText_20 (by assumption) (Nat.le_of_ble_eq_true rfl) (c_isMoveStart h6 h7 hn hf (nI a)) ?_
        refine E_if_ne (tgt := 29) dX3_makeMovesOfText_23 (by decide) (fun q23 => ?_) (fun q23 => ?_)
        · rw [b2i_T0] at q23; have q23 := hms.mp (Classical.not_not.mp q23); rw [if_pos q23] at hR
          refine E_aload_n dX3_makeMovesOfText_29 (by rfl) ?_
          refine E_iload_n dX3_makeMovesOfText_30 (by rfl) ?_
          refine cs_X3_makeMovesOfText_31 (by assumption) (Nat.le_of_ble_eq_true rfl) (c_makeMoveAt h hf hn hS a (by omega)) ?_
          refine E_if_ge (tgt := 39) dX3_makeMovesOfText_34 (by decide) (fun q34 => ?_) (fun q34 => ?_)
          · rw [if_neg (by omega)] at hR
            refine E_iinc (d := 1) dX3_makeMovesOfText_39 (by rfl) (by decide) (Nat.le_of_ble_eq_true rfl) (by rfl) ?_
            refine E_iinc (d := 1) dX3_makeMovesOfText_42 (by rfl) (by decide) (Nat.le_of_ble_eq_true rfl) (by rfl) ?_
            refine E_goto (tgt := 4) dX3_makeMovesOfText_45 (by decide) ?_
            first | exact E_loc [(0, .ref 0), (1, .int (nI (m + 1))), (2, .int (nI (a + 1)))] ⟨rfl, x_i (nI_1 m), x_i (nI_1 a), trivial⟩ (ih (a + 1) (m + 1) _ R hR (by omega) (by omega) (gW_mv hS _ _ _)) | exact E_loc [(0, .ref 0), (1, .int (nI m)), (2, .int (nI (a + 1)))] ⟨rfl, rfl, x_i (nI_1 a), trivial⟩ (ih (a + 1) m _ R hR (by omega) (by omega) hS)
          · rw [if_pos (by omega)] at hR
            refine E_iload_n dX3_makeMovesOfText_37 (by rfl) ?_
            refine E_iret dX3_makeMovesOfText_38 rfl rfl (Nat.zero_le _) (Nat.zero_le _) ?_
            exact hR
        · rw [b2i_T0] at q23; have q23 := fun z => q23 (hms.mpr z); rw [if_neg q23] at hR
          refine E_goto (tgt := 42) dX3_makeMovesOfText_26 (by decide) ?_
          refine E_iinc (d := 1) dX3_makeMovesOfText_42 (by rfl) (by decide) (Nat.le_of_ble_eq_true rfl) (by rfl) ?_
          refine E_goto (tgt := 4) dX3_makeMovesOfText_45 (by decide) ?_
          first | exact E_loc [(0, .ref 0), (1, .int (nI (m + 1))), (2, .int (nI (a + 1)))] ⟨rfl, x_i (nI_1 m), x_i (nI_1 a), trivial⟩ (ih (a + 1) (m + 1) _ R hR (by omega) (by omega) (gW_mv hS _ _ _)) | exact E_loc [(0, .ref 0), (1, .int (nI m)), (2, .int (nI (a + 1)))] ⟨rfl, rfl, x_i (nI_1 a), trivial⟩ (ih (a + 1) m _ R hR (by omega) (by omega) hS)
  refine Ct_of (by decide) (Nat.le_of_ble_eq_true rfl) ?_
  refine E_iconst (v := 0) dX3_makeMovesOfText_0 (by decide) ?_
  refine E_istore_n dX3_makeMovesOfText_1 (Nat.le_of_ble_eq_true rfl) (by rfl) ?_
  refine E_iconst (v := 0) dX3_makeMovesOfText_2 (by decide) ?_
  refine E_istore_n dX3_makeMovesOfText_3 (Nat.le_of_ble_eq_true rfl) (by rfl) ?_
  exact E_loc [(0, .ref 0), (1, .int (nI 0)), (2, .int (nI 0))] ⟨rfl, x_i (by decide), x_i (by decide), trivial⟩ (loop (k_n C) 0 0 S _ ⟨rfl, rfl⟩ (by omega) (Nat.le_refl _) hS)
theorem k_play_no (h : cAt mem C) (hn : k_n C ≤ 60) (he : (tFE (k_f C) (k_n C) 0).toInt ≠ -6) : Dt G kX3_play [.ref 0] mem (some (.int (-5))) mem := by
  have a0 := h.1
  obtain ⟨-, -, -, -, -, -, h6, h7⟩ := id h
  refine Ct_of (by decide) (Nat.le_of_ble_eq_true rfl) ?_
  refine E_aload_n dX3_play_0 (by rfl) ?_
  refine gf_X3_35 dX3_play_1 rfl (by assumption) (by rfl) ?_
  refine cs_X3_play_4 (by assumption) (Nat.le_of_ble_eq_true rfl) (c_firstError h6 h7 hn) ?_
  refine E_bipush (v := (-6)) dX3_play_7 (by decide) ?_
  refine E_icmp_eq (n := (-6)) (by decide) (tgt := 15) dX3_play_9 (by decide) (fun q9 => ?_) (fun q9 => ?_)
  · exact absurd q9 he
  · refine E_bipush (v := (-5)) dX3_play_12 (by decide) ?_
    refine E_iret dX3_play_14 rfl rfl (Nat.zero_le _) (Nat.zero_le _) ?_
    exact x_leaf rfl
theorem k_play_ok (h : cAt mem C) (hc : k_c C ≤ 5) (hla : g_la01 (k_gm C)) (hf : tOk (k_f C) (k_n C)) (hn : k_n C ≤ 60) (hS : gW (k_gm C)) (he : (tFE (k_f C) (k_n C) 0).toInt = -6) : Pt G kX3_play [.ref 0] mem (some (.int (nI (cMs (k_f C) (k_n C) (k_n C) 0 0 (k_gm C)).1))) (cDone mem (cRec ((cMs (k_f C) (k_n C) (k_n C) 0 0 (k_gm C)).2, C.1, C.2.2.1, C.2.2.2.1, C.2.2.2.2.1, C.2.2.2.2.2.1, C.2.2.2.2.2.2.1, 0, k_f C))) := by
  have a0 := h.1
  obtain ⟨-, -, -, -, -, -, h6, h7⟩ := id h
  have g0 := h.2.1.1
  have g1 := h.2.2.1.1
  have hA := cAt_ah h (k_gm C)
  have b0 := hA.1
  have hB := cAt_gm hA (cMs (k_f C) (k_n C) (k_n C) 0 0 (k_gm C)).2
  have d0 := hB.1
  have d1 := hB.2.2.2.2.2.2.1
  have hD := cAt_t hB 0
  have e0 := hD.1
  have z : Dt G kX3_makeMovesOfText [.ref 0] (gPut mem 10 (k_gm C)) (some (.int (nI (cMs (k_f C) (k_n C) (k_n C) 0 0 (k_gm C)).1))) (gPut (gPut mem 10 (k_gm C)) 1 (cMs (k_f C) (k_n C) (k_n C) 0 0 (k_gm C)).2) := by
    have z := c_makeMoves (G := G) hA hf hn hS
    rw [gPut_self hA.2.1] at z
    exact z
  have hm := cMs_le (k_f C) (k_n C) (k_n C) 0 0 (k_gm C)
  refine Ct_of (by decide) (Nat.le_of_ble_eq_true rfl) ?_
  refine E_aload_n dX3_play_0 (by rfl) ?_
  refine gf_X3_35 dX3_play_1 rfl (by assumption) (by rfl) ?_
  refine cs_X3_play_4 (by assumption) (Nat.le_of_ble_eq_true rfl) (c_firstError h6 h7 hn) ?_
  refine E_bipush (v := (-6)) dX3_play_7 (by decide) ?_
  refine E_icmp_eq (n := (-6)) (by decide) (tgt := 15) dX3_play_9 (by decide) (fun q9 => ?_) (fun q9 => ?_)
  · refine E_aload_n dX3_play_15 (by rfl) ?_
    refine gf_X3_16 dX3_play_16 rfl (by assumption) (by rfl) ?_
    refine E_aload_n dX3_play_19 (by rfl) ?_
    refine gf_X3_10 dX3_play_20 rfl (by assumption) (by rfl) ?_
    refine cs_X3_play_23 (by assumption) (Nat.le_of_ble_eq_true rfl) (c_toAhead h hla) ?_
    refine E_aload_n dX3_play_26 (by rfl) ?_
    refine cs_X3_play_27 (by assumption) (Nat.le_of_ble_eq_true rfl) z ?_
    refine E_istore_n dX3_play_30 (Nat.le_of_ble_eq_true rfl) (by rfl) ?_
    refine E_aload_n dX3_play_31 (by rfl) ?_
    refine gf_X3_35 dX3_play_32 rfl (by assumption) (by rfl) ?_
    refine cs_X3_play_35 (by assumption) (Nat.le_of_ble_eq_true rfl) (c_dropAll d1) ?_
    refine E_pop dX3_play_38 rfl ?_
    refine E_aload_n dX3_play_39 (by rfl) ?_
    refine E_iload_n dX3_play_40 (by rfl) ?_
    refine cp_X3_play_41 (by assumption) (Nat.le_of_ble_eq_true rfl) (c_rec_ok hD hc hla _ (by rw [nI_toInt (by omega)]; omega)) (fun m41 h41 => ?_)
    refine E_iret dX3_play_44 rfl rfl (Nat.zero_le _) (Nat.zero_le _) ?_
    exact ⟨rfl, h41.1, xS86.tr (xS86.tr (xS86.tr (xS86.put h.2.2.1 (by decide)) (xS86.put hA.2.1 (by decide))) (xS86.set (by decide))) h41.2⟩
  · exact absurd he q9
end P1
