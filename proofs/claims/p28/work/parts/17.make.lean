/-! the making of the objects -/
section M1
variable {G : xG} {k : xI} {R : Option Value → xM → Prop} {ce sl : Nat} {m0 mem cs : xM} {pc g : Nat} {loc : Nat → Option Value} {st : List Value}
theorem x_app_set {j : Nat} {c : va_E} (hg : m0.length = g) : (m0 ++ cs).set (g + j) c = m0 ++ cs.set j c := by
  rw [List.set_append, if_neg (by omega), show g + j - m0.length = j by omega]
theorem x_app_set0 {c : va_E} (hg : m0.length = g) : (m0 ++ cs).set g c = m0 ++ cs.set 0 c := x_app_set (j := 0) hg
theorem x_app_get {j : Nat} {c : va_E} (hg : m0.length = g) (h : cs[j]? = some c) : (m0 ++ cs)[g + j]? = some c := by
  rw [List.getElem?_append_right (by omega), show g + j - m0.length = j by omega]
  exact h
theorem x_app_get0 {c : va_E} (hg : m0.length = g) (h : cs[0]? = some c) : (m0 ++ cs)[g]? = some c := x_app_get (j := 0) hg h
theorem x_newi {n : Int32} {N j : Nat} (hg : m0.length = g) (hj : cs.length = j) (hd : decode k.2.1 pc = .ok (.newarray .int, 2)) (harr : Cond.arrayClass .int ∈ x_tbl) (hn : ¬ n < 0) (hN : n.toNatClampNeg = N) (hbytes : N * componentBytes .int ≤ 536870912) (hc : ce + 1 ≤ k.2.2.2.2.2.2.1) (hs : sl + N ≤ k.2.2.2.2.2.2.2) (kk : E G k R (ce + 1) (sl + N) (m0 ++ (cs ++ [.inl (0, N, .inl (fun _ => 0))])) (pc + 2) loc (.ref (g + j) :: st)) : E G k R ce sl (m0 ++ cs) pc loc (.int n :: st) := by
  refine E_newi hd harr hn hN hbytes hc hs ?_
  rw [List.append_assoc, List.length_append, hg, hj]
  exact kk
theorem x_newz {n : Int32} {N j : Nat} (hg : m0.length = g) (hj : cs.length = j) (hd : decode k.2.1 pc = .ok (.newarray .boolean, 2)) (harr : Cond.arrayClass .boolean ∈ x_tbl) (hn : ¬ n < 0) (hN : n.toNatClampNeg = N) (hbytes : N * componentBytes .boolean ≤ 536870912) (hc : ce + 1 ≤ k.2.2.2.2.2.2.1) (hs : sl + N ≤ k.2.2.2.2.2.2.2) (kk : E G k R (ce + 1) (sl + N) (m0 ++ (cs ++ [.inl (1, N, .inl (fun _ => 0))])) (pc + 2) loc (.ref (g + j) :: st)) : E G k R ce sl (m0 ++ cs) pc loc (.int n :: st) := by
  refine E_newz hd harr hn hN hbytes hc hs ?_
  rw [List.append_assoc, List.length_append, hg, hj]
  exact kk
theorem x_newc {n : Int32} {N j : Nat} (hg : m0.length = g) (hj : cs.length = j) (hd : decode k.2.1 pc = .ok (.newarray .char, 2)) (harr : Cond.arrayClass .char ∈ x_tbl) (hn : ¬ n < 0) (hN : n.toNatClampNeg = N) (hbytes : N * componentBytes .char ≤ 536870912) (hc : ce + 1 ≤ k.2.2.2.2.2.2.1) (hs : sl + N ≤ k.2.2.2.2.2.2.2) (kk : E G k R (ce + 1) (sl + N) (m0 ++ (cs ++ [.inl (2, N, .inl (fun _ => 0))])) (pc + 2) loc (.ref (g + j) :: st)) : E G k R ce sl (m0 ++ cs) pc loc (.int n :: st) := by
  refine E_newc hd harr hn hN hbytes hc hs ?_
  rw [List.append_assoc, List.length_append, hg, hj]
  exact kk
abbrev g_o0 : va_E := .inr (0, [.null, .null, .null, .null, .null, .null, .null, .null, .int 0, .int 0, .int 0, .int 0, .int 0])
def gI (i : Nat) : gS := (fun j => if j < i then -6 else 0, fun _ => 0, fun _ => 0, fun _ => 0, fun _ => 0, fun _ => 0, fun _ => 0, fun _ => 0, 30, 0, 0, 0, 0)
theorem gI_step (i : Nat) : upd (g_le (gI i)) i (-6) = g_le (gI (i + 1)) := by
  funext j
  show (if j = i then (-6 : Int32) else (if j < i then -6 else 0)) = (if j < i + 1 then -6 else 0)
  by_cases h : j = i
  · subst h; rw [if_pos rfl, if_pos (by omega)]
  · rw [if_neg h]
    by_cases h2 : j < i
    · rw [if_pos h2, if_pos (by omega)]
    · rw [if_neg h2, if_neg (by omega)]
theorem c_Game_init (hg : m0.length = g) : Dt G kX0_init [.ref g] (m0 ++ [g_o0]) none (m0 ++ gCells g (gI 60)) := by
  refine Ct_of (by decide) (Nat.le_of_ble_eq_true rfl) ?_
  have loop : ∀ di i : Nat, 60 < i + di → i ≤ 60 → E G kX0_init (x_R (none) (m0 ++ gCells g (gI 60))) 8 156 ((m0 ++ gCells g (gI i))) 96 (x_L [(0, .ref g), (1, .int (nI i))]) [] := by
    intro di
    induction di with
    | zero => intro i hi1 hi2; exact absurd hi1 (by omega)
    | succ di ihi =>
      intro i hi1 hi2
      have ei : (nI i).toInt = (i : Int) := nI_toInt (by omega)
      have eci : (nI i).toNatClampNeg = i := nI_clamp (by omega)
      have a0 : (m0 ++ gCells g (gI i))[g]? = some (g_o g (gI i)) := x_app_get0 hg rfl
      have a1 : (m0 ++ gCells g (gI i))[g + 1]? = some (g_a 0 60 (g_le (gI i))) := x_app_get hg rfl
      refine E_iload_n dX0_init_96 (by rfl) ?_
      refine E_bipush (v := 60) dX0_init_97 (by decide) ?_
      refine E_icmp_ge (n := 60) (by decide) (tgt := 116) dX0_init_99 (by decide) (fun q99 => ?_) (fun q99 => ?_)
      · refine E_vret dX0_init_116 rfl (by decide) (by decide) ?_
        exact ⟨rfl, by rw [show i = 60 by omega]⟩
      · refine E_aload_n dX0_init_102 (by rfl) ?_
        refine gf_X0_9 dX0_init_103 rfl (by assumption) (by rfl) ?_
        refine E_iload_n dX0_init_106 (by rfl) ?_
        refine E_bipush (v := (-6)) dX0_init_107 (by decide) ?_
        refine E_iast dX0_init_109 (by assumption) (i_in (by omega) (by omega)) ?_
        refine E_iinc (d := 1) dX0_init_110 (by rfl) (by decide) (Nat.le_of_ble_eq_true rfl) (by rfl) ?_
        refine E_goto (tgt := 96) dX0_init_113 (by decide) ?_
        refine E_mem (mem' := m0 ++ gCells g (gI (i + 1))) ((x_app_set hg).trans ?_) ?_
        · rw [eci, gI_step]; rfl
        exact E_loc [(0, .ref g), (1, .int (nI (i + 1)))] ⟨rfl, x_i (by first | exact nI_1 _ | decide), trivial⟩ (ihi (i + 1) (by omega) (by omega))
  refine E_aload_n dX0_init_0 (by rfl) ?_
  refine E_objInit dX0_init_1 rfl wl_X0_3 w_oin w_oco (Nat.le_of_ble_eq_true rfl) (Nat.le_of_ble_eq_true rfl) ?_
  refine E_aload_n dX0_init_4 (by rfl) ?_
  refine E_bipush (v := 60) dX0_init_5 (by decide) ?_
  refine x_newi (N := 60) (j := 1) hg rfl dX0_init_7 wa_int (by decide) (by decide) (by decide) (by decide) (by decide) ?_
  refine E_mem (mem' := m0 ++ [.inr (0, [.null, .null, .null, .null, .null, .null, .null, .null, .int 0, .int 0, .int 0, .int 0, .int 0]), .inl (0, 60, .inl (fun _ => 0))]) rfl ?_
  refine pf_X0_9 dX0_init_9 rfl rfl (x_app_get0 hg rfl) (Nat.le_of_ble_eq_true rfl) ?_
  refine E_mem (mem' := m0 ++ [.inr (0, [.ref (g + 1), .null, .null, .null, .null, .null, .null, .null, .int 0, .int 0, .int 0, .int 0, .int 0]), .inl (0, 60, .inl (fun _ => 0))]) (x_app_set0 hg) ?_
  refine E_aload_n dX0_init_12 (by rfl) ?_
  refine E_bipush (v := 60) dX0_init_13 (by decide) ?_
  refine x_newz (N := 60) (j := 2) hg rfl dX0_init_15 wa_boolean (by decide) (by decide) (by decide) (by decide) (by decide) ?_
  refine E_mem (mem' := m0 ++ [.inr (0, [.ref (g + 1), .null, .null, .null, .null, .null, .null, .null, .int 0, .int 0, .int 0, .int 0, .int 0]), .inl (0, 60, .inl (fun _ => 0)), .inl (1, 60, .inl (fun _ => 0))]) rfl ?_
  refine pf_X0_15 dX0_init_17 rfl rfl (x_app_get0 hg rfl) (Nat.le_of_ble_eq_true rfl) ?_
  refine E_mem (mem' := m0 ++ [.inr (0, [.ref (g + 1), .ref (g + 2), .null, .null, .null, .null, .null, .null, .int 0, .int 0, .int 0, .int 0, .int 0]), .inl (0, 60, .inl (fun _ => 0)), .inl (1, 60, .inl (fun _ => 0))]) (x_app_set0 hg) ?_
  refine E_aload_n dX0_init_20 (by rfl) ?_
  refine E_bipush (v := 6) dX0_init_21 (by decide) ?_
  refine x_newi (N := 6) (j := 3) hg rfl dX0_init_23 wa_int (by decide) (by decide) (by decide) (by decide) (by decide) ?_
  refine E_mem (mem' := m0 ++ [.inr (0, [.ref (g + 1), .ref (g + 2), .null, .null, .null, .null, .null, .null, .int 0, .int 0, .int 0, .int 0, .int 0]), .inl (0, 60, .inl (fun _ => 0)), .inl (1, 60, .inl (fun _ => 0)), .inl (0, 6, .inl (fun _ => 0))]) rfl ?_
  refine pf_X0_19 dX0_init_25 rfl rfl (x_app_get0 hg rfl) (Nat.le_of_ble_eq_true rfl) ?_
  refine E_mem (mem' := m0 ++ [.inr (0, [.ref (g + 1), .ref (g + 2), .ref (g + 3), .null, .null, .null, .null, .null, .int 0, .int 0, .int 0, .int 0, .int 0]), .inl (0, 60, .inl (fun _ => 0)), .inl (1, 60, .inl (fun _ => 0)), .inl (0, 6, .inl (fun _ => 0))]) (x_app_set0 hg) ?_
  refine E_aload_n dX0_init_28 (by rfl) ?_
  refine E_bipush (v := 6) dX0_init_29 (by decide) ?_
  refine x_newi (N := 6) (j := 4) hg rfl dX0_init_31 wa_int (by decide) (by decide) (by decide) (by decide) (by decide) ?_
  refine E_mem (mem' := m0 ++ [.inr (0, [.ref (g + 1), .ref (g + 2), .ref (g + 3), .null, .null, .null, .null, .null, .int 0, .int 0, .int 0, .int 0, .int 0]), .inl (0, 60, .inl (fun _ => 0)), .inl (1, 60, .inl (fun _ => 0)), .inl (0, 6, .inl (fun _ => 0)), .inl (0, 6, .inl (fun _ => 0))]) rfl ?_
  refine pf_X0_22 dX0_init_33 rfl rfl (x_app_get0 hg rfl) (Nat.le_of_ble_eq_true rfl) ?_
  refine E_mem (mem' := m0 ++ [.inr (0, [.ref (g + 1), .ref (g + 2), .ref (g + 3), .ref (g + 4), .null, .null, .null, .null, .int 0, .int 0, .int 0, .int 0, .int 0]), .inl (0, 60, .inl (fun _ => 0)), .inl (1, 60, .inl (fun _ => 0)), .inl (0, 6, .inl (fun _ => 0)), .inl (0, 6, .inl (fun _ => 0))]) (x_app_set0 hg) ?_
  refine E_aload_n dX0_init_36 (by rfl) ?_
  refine E_bipush (v := 6) dX0_init_37 (by decide) ?_
  refine x_newi (N := 6) (j := 5) hg rfl dX0_init_39 wa_int (by decide) (by decide) (by decide) (by decide) (by decide) ?_
  refine E_mem (mem' := m0 ++ [.inr (0, [.ref (g + 1), .ref (g + 2), .ref (g + 3), .ref (g + 4), .null, .null, .null, .null, .int 0, .int 0, .int 0, .int 0, .int 0]), .inl (0, 60, .inl (fun _ => 0)), .inl (1, 60, .inl (fun _ => 0)), .inl (0, 6, .inl (fun _ => 0)), .inl (0, 6, .inl (fun _ => 0)), .inl (0, 6, .inl (fun _ => 0))]) rfl ?_
  refine pf_X0_25 dX0_init_41 rfl rfl (x_app_get0 hg rfl) (Nat.le_of_ble_eq_true rfl) ?_
  refine E_mem (mem' := m0 ++ [.inr (0, [.ref (g + 1), .ref (g + 2), .ref (g + 3), .ref (g + 4), .ref (g + 5), .null, .null, .null, .int 0, .int 0, .int 0, .int 0, .int 0]), .inl (0, 60, .inl (fun _ => 0)), .inl (1, 60, .inl (fun _ => 0)), .inl (0, 6, .inl (fun _ => 0)), .inl (0, 6, .inl (fun _ => 0)), .inl (0, 6, .inl (fun _ => 0))]) (x_app_set0 hg) ?_
  refine E_aload_n dX0_init_44 (by rfl) ?_
  refine E_bipush (v := 6) dX0_init_45 (by decide) ?_
  refine x_newi (N := 6) (j := 6) hg rfl dX0_init_47 wa_int (by decide) (by decide) (by decide) (by decide) (by decide) ?_
  refine E_mem (mem' := m0 ++ [.inr (0, [.ref (g + 1), .ref (g + 2), .ref (g + 3), .ref (g + 4), .ref (g + 5), .null, .null, .null, .int 0, .int 0, .int 0, .int 0, .int 0]), .inl (0, 60, .inl (fun _ => 0)), .inl (1, 60, .inl (fun _ => 0)), .inl (0, 6, .inl (fun _ => 0)), .inl (0, 6, .inl (fun _ => 0)), .inl (0, 6, .inl (fun _ => 0)), .inl (0, 6, .inl (fun _ => 0))]) rfl ?_
  refine pf_X0_28 dX0_init_49 rfl rfl (x_app_get0 hg rfl) (Nat.le_of_ble_eq_true rfl) ?_
  refine E_mem (mem' := m0 ++ [.inr (0, [.ref (g + 1), .ref (g + 2), .ref (g + 3), .ref (g + 4), .ref (g + 5), .ref (g + 6), .null, .null, .int 0, .int 0, .int 0, .int 0, .int 0]), .inl (0, 60, .inl (fun _ => 0)), .inl (1, 60, .inl (fun _ => 0)), .inl (0, 6, .inl (fun _ => 0)), .inl (0, 6, .inl (fun _ => 0)), .inl (0, 6, .inl (fun _ => 0)), .inl (0, 6, .inl (fun _ => 0))]) (x_app_set0 hg) ?_
  refine E_aload_n dX0_init_52 (by rfl) ?_
  refine E_bipush (v := 6) dX0_init_53 (by decide) ?_
  refine x_newi (N := 6) (j := 7) hg rfl dX0_init_55 wa_int (by decide) (by decide) (by decide) (by decide) (by decide) ?_
  refine E_mem (mem' := m0 ++ [.inr (0, [.ref (g + 1), .ref (g + 2), .ref (g + 3), .ref (g + 4), .ref (g + 5), .ref (g + 6), .null, .null, .int 0, .int 0, .int 0, .int 0, .int 0]), .inl (0, 60, .inl (fun _ => 0)), .inl (1, 60, .inl (fun _ => 0)), .inl (0, 6, .inl (fun _ => 0)), .inl (0, 6, .inl (fun _ => 0)), .inl (0, 6, .inl (fun _ => 0)), .inl (0, 6, .inl (fun _ => 0)), .inl (0, 6, .inl (fun _ => 0))]) rfl ?_
  refine pf_X0_31 dX0_init_57 rfl rfl (x_app_get0 hg rfl) (Nat.le_of_ble_eq_true rfl) ?_
  refine E_mem (mem' := m0 ++ [.inr (0, [.ref (g + 1), .ref (g + 2), .ref (g + 3), .ref (g + 4), .ref (g + 5), .ref (g + 6), .ref (g + 7), .null, .int 0, .int 0, .int 0, .int 0, .int 0]), .inl (0, 60, .inl (fun _ => 0)), .inl (1, 60, .inl (fun _ => 0)), .inl (0, 6, .inl (fun _ => 0)), .inl (0, 6, .inl (fun _ => 0)), .inl (0, 6, .inl (fun _ => 0)), .inl (0, 6, .inl (fun _ => 0)), .inl (0, 6, .inl (fun _ => 0))]) (x_app_set0 hg) ?_
  refine E_aload_n dX0_init_60 (by rfl) ?_
  refine E_bipush (v := 6) dX0_init_61 (by decide) ?_
  refine x_newi (N := 6) (j := 8) hg rfl dX0_init_63 wa_int (by decide) (by decide) (by decide) (by decide) (by decide) ?_
  refine E_mem (mem' := m0 ++ [.inr (0, [.ref (g + 1), .ref (g + 2), .ref (g + 3), .ref (g + 4), .ref (g + 5), .ref (g + 6), .ref (g + 7), .null, .int 0, .int 0, .int 0, .int 0, .int 0]), .inl (0, 60, .inl (fun _ => 0)), .inl (1, 60, .inl (fun _ => 0)), .inl (0, 6, .inl (fun _ => 0)), .inl (0, 6, .inl (fun _ => 0)), .inl (0, 6, .inl (fun _ => 0)), .inl (0, 6, .inl (fun _ => 0)), .inl (0, 6, .inl (fun _ => 0)), .inl (0, 6, .inl (fun _ => 0))]) rfl ?_
  refine pf_X0_34 dX0_init_65 rfl rfl (x_app_get0 hg rfl) (Nat.le_of_ble_eq_true rfl) ?_
  refine E_mem (mem' := m0 ++ [.inr (0, [.ref (g + 1), .ref (g + 2), .ref (g + 3), .ref (g + 4), .ref (g + 5), .ref (g + 6), .ref (g + 7), .ref (g + 8), .int 0, .int 0, .int 0, .int 0, .int 0]), .inl (0, 60, .inl (fun _ => 0)), .inl (1, 60, .inl (fun _ => 0)), .inl (0, 6, .inl (fun _ => 0)), .inl (0, 6, .inl (fun _ => 0)), .inl (0, 6, .inl (fun _ => 0)), .inl (0, 6, .inl (fun _ => 0)), .inl (0, 6, .inl (fun _ => 0)), .inl (0, 6, .inl (fun _ => 0))]) (x_app_set0 hg) ?_
  refine E_aload_n dX0_init_68 (by rfl) ?_
  refine E_bipush (v := 30) dX0_init_69 (by decide) ?_
  refine pf_X0_37 dX0_init_71 rfl (x_app_get0 hg rfl) (Nat.le_of_ble_eq_true rfl) ?_
  refine E_mem (mem' := m0 ++ [.inr (0, [.ref (g + 1), .ref (g + 2), .ref (g + 3), .ref (g + 4), .ref (g + 5), .ref (g + 6), .ref (g + 7), .ref (g + 8), .int 30, .int 0, .int 0, .int 0, .int 0]), .inl (0, 60, .inl (fun _ => 0)), .inl (1, 60, .inl (fun _ => 0)), .inl (0, 6, .inl (fun _ => 0)), .inl (0, 6, .inl (fun _ => 0)), .inl (0, 6, .inl (fun _ => 0)), .inl (0, 6, .inl (fun _ => 0)), .inl (0, 6, .inl (fun _ => 0)), .inl (0, 6, .inl (fun _ => 0))]) (x_app_set0 hg) ?_
  refine E_aload_n dX0_init_74 (by rfl) ?_
  refine E_iconst (v := 0) dX0_init_75 (by decide) ?_
  refine pf_X0_41 dX0_init_76 rfl (x_app_get0 hg rfl) (Nat.le_of_ble_eq_true rfl) ?_
  refine E_mem (mem' := m0 ++ [.inr (0, [.ref (g + 1), .ref (g + 2), .ref (g + 3), .ref (g + 4), .ref (g + 5), .ref (g + 6), .ref (g + 7), .ref (g + 8), .int 30, .int 0, .int 0, .int 0, .int 0]), .inl (0, 60, .inl (fun _ => 0)), .inl (1, 60, .inl (fun _ => 0)), .inl (0, 6, .inl (fun _ => 0)), .inl (0, 6, .inl (fun _ => 0)), .inl (0, 6, .inl (fun _ => 0)), .inl (0, 6, .inl (fun _ => 0)), .inl (0, 6, .inl (fun _ => 0)), .inl (0, 6, .inl (fun _ => 0))]) (x_app_set0 hg) ?_
  refine E_aload_n dX0_init_79 (by rfl) ?_
  refine E_iconst (v := 0) dX0_init_80 (by decide) ?_
  refine pf_X0_44 dX0_init_81 rfl (x_app_get0 hg rfl) (Nat.le_of_ble_eq_true rfl) ?_
  refine E_mem (mem' := m0 ++ [.inr (0, [.ref (g + 1), .ref (g + 2), .ref (g + 3), .ref (g + 4), .ref (g + 5), .ref (g + 6), .ref (g + 7), .ref (g + 8), .int 30, .int 0, .int 0, .int 0, .int 0]), .inl (0, 60, .inl (fun _ => 0)), .inl (1, 60, .inl (fun _ => 0)), .inl (0, 6, .inl (fun _ => 0)), .inl (0, 6, .inl (fun _ => 0)), .inl (0, 6, .inl (fun _ => 0)), .inl (0, 6, .inl (fun _ => 0)), .inl (0, 6, .inl (fun _ => 0)), .inl (0, 6, .inl (fun _ => 0))]) (x_app_set0 hg) ?_
  refine E_aload_n dX0_init_84 (by rfl) ?_
  refine E_iconst (v := 0) dX0_init_85 (by decide) ?_
  refine pf_X0_47 dX0_init_86 rfl (x_app_get0 hg rfl) (Nat.le_of_ble_eq_true rfl) ?_
  refine E_mem (mem' := m0 ++ [.inr (0, [.ref (g + 1), .ref (g + 2), .ref (g + 3), .ref (g + 4), .ref (g + 5), .ref (g + 6), .ref (g + 7), .ref (g + 8), .int 30, .int 0, .int 0, .int 0, .int 0]), .inl (0, 60, .inl (fun _ => 0)), .inl (1, 60, .inl (fun _ => 0)), .inl (0, 6, .inl (fun _ => 0)), .inl (0, 6, .inl (fun _ => 0)), .inl (0, 6, .inl (fun _ => 0)), .inl (0, 6, .inl (fun _ => 0)), .inl (0, 6, .inl (fun _ => 0)), .inl (0, 6, .inl (fun _ => 0))]) (x_app_set0 hg) ?_
  refine E_aload_n dX0_init_89 (by rfl) ?_
  refine E_iconst (v := 0) dX0_init_90 (by decide) ?_
  refine pf_X0_50 dX0_init_91 rfl (x_app_get0 hg rfl) (Nat.le_of_ble_eq_true rfl) ?_
  refine E_mem (mem' := m0 ++ [.inr (0, [.ref (g + 1), .ref (g + 2), .ref (g + 3), .ref (g + 4), .ref (g + 5), .ref (g + 6), .ref (g + 7), .ref (g + 8), .int 30, .int 0, .int 0, .int 0, .int 0]), .inl (0, 60, .inl (fun _ => 0)), .inl (1, 60, .inl (fun _ => 0)), .inl (0, 6, .inl (fun _ => 0)), .inl (0, 6, .inl (fun _ => 0)), .inl (0, 6, .inl (fun _ => 0)), .inl (0, 6, .inl (fun _ => 0)), .inl (0, 6, .inl (fun _ => 0)), .inl (0, 6, .inl (fun _ => 0))]) (x_app_set0 hg) ?_
  refine E_iconst (v := 0) dX0_init_94 (by decide) ?_
  refine E_istore_n dX0_init_95 (Nat.le_of_ble_eq_true rfl) (by rfl) ?_
  exact E_loc [(0, .ref g), (1, .int (nI 0))] ⟨rfl, x_i (by first | rfl | decide), trivial⟩ (loop (60 + 1) 0 (by omega) (by omega))
/-! History: five games -/
abbrev h_rN : va_E := .inl (3, 5, .inr (.inr (.inr (.inr (fun _ => none)))))
theorem E_newL {L ci index N : Nat} {own C : String} {T : u_T} {ty0 : Nat → FieldType} {fs : List Value} (hL : mem.length = L) (hd : decode k.2.1 pc = .ok (.new index, 3)) (hin : ∀ w ∈ u_ws C T N, w ∈ x_tbl) (hty : ∀ k, k < N → parseFieldDescriptor (T k).2.2.1 = some (ty0 k)) (hown : k.1.cls = own) (hcl : Cond.classLink own index C ∈ x_tbl) (hinst : Cond.instantiable C N ∈ x_tbl) (hini : Cond.initialized C ∈ x_tbl) (hc : vwCl[ci]? = some (C, T, N)) (hfs : ∀ j, j < N → defaultValue (ty0 j) = vp_V (fs.map (x_v G)) j) (hcc : ce + 1 ≤ k.2.2.2.2.2.2.1) (hs : sl + N ≤ k.2.2.2.2.2.2.2) (kk : E G k R (ce + 1) (sl + N) (mem ++ [.inr (ci, fs)]) (pc + 3) loc (.ref L :: st)) : E G k R ce sl mem pc loc st := by
  refine E_new hd hin hty hown hcl hinst hini hc hfs hcc hs ?_
  rw [hL]
  exact kk
theorem E_anewL {L index : Nat} {own : String} {n : Int32} {N : Nat} (hL : mem.length = L) (hd : decode k.2.1 pc = .ok (.anewarray index, 3)) (hown : k.1.cls = own) (hcl : Cond.classLink own index RX0 ∈ x_tbl) (hn : ¬ n < 0) (hN : n.toNatClampNeg = N) (hbytes : N * 4 ≤ 536870912) (hcc : ce + 1 ≤ k.2.2.2.2.2.2.1) (hs : sl + N ≤ k.2.2.2.2.2.2.2) (kk : E G k R (ce + 1) (sl + N) (mem ++ [.inl (3, N, .inr (.inr (.inr (.inr (fun _ => none)))))]) (pc + 3) loc (.ref L :: st)) : E G k R ce sl mem pc loc (.int n :: st) := by
  refine E_anew hd hown hcl hn hN hbytes hcc hs ?_
  rw [hL]
  exact kk
theorem x_dv0 : ∀ j, j < 13 → defaultValue (tyX0 j) = vp_V (([.null, .null, .null, .null, .null, .null, .null, .null, .int 0, .int 0, .int 0, .int 0, .int 0] : List Value).map (x_v G)) j := by
  intro j hj
  match j, hj with
  | 0, _ => rfl
  | 1, _ => rfl
  | 2, _ => rfl
  | 3, _ => rfl
  | 4, _ => rfl
  | 5, _ => rfl
  | 6, _ => rfl
  | 7, _ => rfl
  | 8, _ => rfl
  | 9, _ => rfl
  | 10, _ => rfl
  | 11, _ => rfl
  | 12, _ => rfl
def gms : Nat → xM
  | 0 => []
  | i + 1 => gms i ++ gCells (39 + 9 * i) (gI 60)
theorem gms_len : ∀ i, (gms i).length = 9 * i
  | 0 => rfl
  | i + 1 => by
    rw [gms, List.length_append, gms_len i]
    show 9 * i + 9 = _
    omega
def h_f (i : Nat) : Nat → Option Nat := fun j => if j < i then some (39 + 9 * j) else none
theorem h_f_step (i : Nat) : va_up (h_f i) i (some (39 + 9 * i)) = h_f (i + 1) := by
  funext j
  unfold va_up h_f
  by_cases h : j = i
  · subst h; rw [if_pos rfl, if_pos (by omega)]
  · rw [if_neg h]
    by_cases h2 : j < i
    · rw [if_pos h2, if_pos (by omega)]
    · rw [if_neg h2, if_neg (by omega)]
theorem c_History_init (hg : m0.length = 37) : Dt G kX1_init [.ref 37] (m0 ++ [.inr (1, [.null, .int 0])]) none (m0 ++ [h_o 0, h_r (h_f 5)] ++ gms 5) := by
  have hl : ∀ i, (m0 ++ [h_o 0, h_r (h_f i)] ++ gms i).length = 39 + 9 * i := fun i => by
    rw [List.length_append, List.length_append, gms_len, hg]
    show 37 + 2 + 9 * i = _
    omega
  refine Ct_of (by decide) (Nat.le_of_ble_eq_true rfl) ?_
  have loop : ∀ d i : Nat, 5 < i + d → i ≤ 5 → E G kX1_init (x_R none (m0 ++ [h_o 0, h_r (h_f 5)] ++ gms 5)) (1 + 9 * i) (5 + 169 * i) (m0 ++ [h_o 0, h_r (h_f i)] ++ gms i) 19 (x_L [(0, .ref 37), (1, .int (nI i))]) [] := by
    intro d
    induction d with
    | zero => intro i h1 h2; exact absurd h1 (by omega)
    | succ d ih =>
      intro i hd hi
      have ei : (nI i).toInt = (i : Int) := nI_toInt (by omega)
      have eci : (nI i).toNatClampNeg = i := nI_clamp (by omega)
      have a0 : (m0 ++ [h_o 0, h_r (h_f i)] ++ gms i)[37]? = some (h_o 0) := by rw [List.append_assoc]; exact x_app_get0 hg rfl
      have hN : (m0 ++ [h_o 0, h_r (h_f i)] ++ gms i) ++ gCells (39 + 9 * i) (gI 60) = m0 ++ ([h_o 0, h_r (h_f i)] ++ gms (i + 1)) := by rw [gms, List.append_assoc, List.append_assoc]
      have b1 : (m0 ++ ([h_o 0, h_r (h_f i)] ++ gms (i + 1)))[38]? = some (h_r (h_f i)) := x_app_get (j := 1) hg rfl
      have b2 : (m0 ++ ([h_o 0, h_r (h_f i)] ++ gms (i + 1)))[39 + 9 * i]? = some (g_o (39 + 9 * i) (gI 60)) := by
        rw [← hN]
        exact x_app_get0 (hl i) rfl
      refine E_iload_n dX1_init_19 (by rfl) ?_
      refine E_iconst (v := 5) dX1_init_20 (by decide) ?_
      refine E_icmp_ge (n := 5) (by decide) (tgt := 43) dX1_init_21 (by decide) (fun q21 => ?_) (fun q21 => ?_)
      · obtain rfl : i = 5 := by omega
        refine E_vret dX1_init_43 rfl (by decide) (by decide) ?_
        exact ⟨rfl, rfl⟩
      · refine E_aload_n dX1_init_24 (by rfl) ?_
        refine gf_X1_11 dX1_init_25 rfl (by assumption) (by rfl) ?_
        refine E_iload_n dX1_init_28 (by rfl) ?_
        refine E_newL (L := 39 + 9 * i) (T := TX0) (N := 13) (ci := 0) (hl i) dX1_init_29 xin_X0 tyX0_ok rfl wk_X1_9 wt_X0 wn_RX0 rfl x_dv0 (by show _ + 1 ≤ 46; omega) (by show _ + 13 ≤ 850; omega) ?_
        refine E_dup dX1_init_32 rfl ?_
        refine cs_X1_init_33 (Nat.le_of_ble_eq_true rfl) ⟨by omega, by omega⟩ (c_Game_init (hl i)) ?_
        rw [hN]
        refine E_aast dX1_init_36 b1 b2 (i_in (by omega) (by omega)) ?_
        rw [eci, h_f_step, show (38 : Nat) = 37 + 1 from rfl, x_app_set hg]
        refine E_iinc (d := 1) dX1_init_37 (by rfl) (by decide) (Nat.le_of_ble_eq_true rfl) (by rfl) ?_
        refine E_goto (tgt := 19) dX1_init_40 (by decide) ?_
        refine E_mem (mem' := m0 ++ [h_o 0, h_r (h_f (i + 1))] ++ gms (i + 1)) (by rw [List.append_assoc]; rfl) ?_
        have z := ih (i + 1) (by omega) (by omega)
        rw [show 1 + 9 * (i + 1) = 1 + 9 * i + 1 + 8 by omega, show 5 + 169 * (i + 1) = 5 + 169 * i + 13 + 156 by omega] at z
        exact E_loc [(0, .ref 37), (1, .int (nI (i + 1)))] ⟨rfl, x_i (nI_1 i), trivial⟩ z
  have hz : h_r (h_f 0) = h_rN := by
    have e : h_f 0 = fun _ => none := by funext j; unfold h_f; rw [if_neg (by omega)]
    rw [e]
  have z := loop 6 0 (by omega) (by omega)
  rw [hz] at z
  have hl1 : (m0 ++ [(.inr (1, [.null, .int 0]) : va_E)]).length = 38 := by rw [List.length_append, hg]; rfl
  refine E_aload_n dX1_init_0 (by rfl) ?_
  refine E_objInit dX1_init_1 rfl wl_X1_3 w_oin w_oco (Nat.le_of_ble_eq_true rfl) (Nat.le_of_ble_eq_true rfl) ?_
  refine E_aload_n dX1_init_4 (by rfl) ?_
  refine E_iconst (v := 5) dX1_init_5 (by decide) ?_
  refine E_anewL (L := 38) (N := 5) hl1 dX1_init_6 rfl wk_X1_9 (by decide) (by decide) (by decide) (by decide) (by decide) ?_
  refine E_mem (mem' := m0 ++ [.inr (1, [.null, .int 0]), h_rN]) (by rw [List.append_assoc]; rfl) ?_
  refine pf_X1_11 dX1_init_9 rfl rfl (x_app_get0 hg rfl) (Nat.le_of_ble_eq_true rfl) ?_
  refine E_mem (x_app_set0 hg) ?_
  refine E_mem (mem' := m0 ++ [.inr (1, [.ref 38, .int 0]), h_rN]) rfl ?_
  refine E_aload_n dX1_init_12 (by rfl) ?_
  refine E_iconst (v := 0) dX1_init_13 (by decide) ?_
  refine pf_X1_17 dX1_init_14 rfl (x_app_get0 hg rfl) (Nat.le_of_ble_eq_true rfl) ?_
  refine E_mem (x_app_set0 hg) ?_
  refine E_mem (mem' := m0 ++ [h_o 0, h_rN] ++ gms 0) (by rw [gms, List.append_nil]; rfl) ?_
  refine E_iconst (v := 0) dX1_init_17 (by decide) ?_
  refine E_istore_n dX1_init_18 (Nat.le_of_ble_eq_true rfl) (by rfl) ?_
  exact E_loc [(0, .ref 37), (1, .int (nI 0))] ⟨rfl, rfl, trivial⟩ z
theorem x_dv1 : ∀ j, j < 2 → defaultValue (tyX1 j) = vp_V (([.null, .int 0] : List Value).map (x_v G)) j := by
  intro j hj
  match j, hj with
  | 0, _ => rfl
  | 1, _ => rfl
theorem x_dv2 : ∀ j, j < 2 → defaultValue (tyX2 j) = vp_V (([.null, .int 0] : List Value).map (x_v G)) j := by
  intro j hj
  match j, hj with
  | 0, _ => rfl
  | 1, _ => rfl
theorem c_Text_init (hg : m0.length = 84) : Dt G kX2_init [.ref 84] (m0 ++ [.inr (2, [.null, .int 0])]) none (m0 ++ [t_o 0, t_s (fun _ => 0)]) := by
  have hg : m0.length = 84 := hg
  refine Ct_of (by decide) (Nat.le_of_ble_eq_true rfl) ?_
  refine E_aload_n dX2_init_0 (by rfl) ?_
  refine E_objInit dX2_init_1 rfl wl_X2_3 w_oin w_oco (Nat.le_of_ble_eq_true rfl) (Nat.le_of_ble_eq_true rfl) ?_
  refine E_aload_n dX2_init_4 (by rfl) ?_
  refine E_bipush (v := 60) dX2_init_5 (by decide) ?_
  refine x_newc (g := 84) (N := 60) (j := 1) hg rfl dX2_init_7 wa_char (by decide) (by decide) (by decide) (by decide) (by decide) ?_
  refine E_mem (mem' := m0 ++ [.inr (2, [.null, .int 0]), t_s (fun _ => 0)]) rfl ?_
  refine pf_X2_9 dX2_init_9 rfl rfl (x_app_get0 hg rfl) (Nat.le_of_ble_eq_true rfl) ?_
  refine E_mem (x_app_set0 hg) ?_
  refine E_aload_n dX2_init_12 (by rfl) ?_
  refine E_iconst (v := 0) dX2_init_13 (by decide) ?_
  refine pf_X2_15 dX2_init_14 rfl (x_app_get0 hg rfl) (Nat.le_of_ble_eq_true rfl) ?_
  refine E_mem (x_app_set0 hg) ?_
  refine E_vret dX2_init_17 rfl (by decide) (by decide) ?_
  exact ⟨rfl, rfl⟩
/-! LiftingStairs -/
abbrev k_oN : va_E := .inr (3, [.null, .null, .null, .null, .null, .null, .int 0])
def cM0 : xM := ([k_o 0] ++ gCells 1 (gI 60) ++ gCells 10 (gI 60) ++ gCells 19 (gI 60) ++ gCells 28 (gI 60) ++ [h_o 0, h_r (h_f 5)] ++ gms 5) ++ [t_o 0, t_s (fun _ => 0)]
theorem c_Class_init : Dt G kX3_init [.ref 0] [k_oN] none cM0 := by
  refine Ct_of (by decide) (Nat.le_of_ble_eq_true rfl) ?_
  refine E_aload_n dX3_init_0 (by rfl) ?_
  refine E_objInit dX3_init_1 rfl wl_X3_1 w_oin w_oco (Nat.le_of_ble_eq_true rfl) (Nat.le_of_ble_eq_true rfl) ?_
  refine E_aload_n dX3_init_4 (by rfl) ?_
  refine E_newL (L := 1) (T := TX0) (N := 13) (ci := 0) rfl dX3_init_5 xin_X0 tyX0_ok rfl wk_X3_7 wt_X0 wn_RX0 rfl x_dv0 (by decide) (by decide) ?_
  refine E_dup dX3_init_8 rfl ?_
  refine cs_X3_init_9 (Nat.le_of_ble_eq_true rfl) (by decide) (c_Game_init (m0 := [k_oN]) rfl) ?_
  refine pf_X3_10 dX3_init_12 rfl rfl rfl (Nat.le_of_ble_eq_true rfl) ?_
  refine E_mem (mem' := [.inr (3, [.ref 1, .null, .null, .null, .null, .null, .int 0])] ++ gCells 1 (gI 60)) rfl ?_
  refine E_aload_n dX3_init_15 (by rfl) ?_
  refine E_newL (L := 10) (T := TX0) (N := 13) (ci := 0) rfl dX3_init_16 xin_X0 tyX0_ok rfl wk_X3_7 wt_X0 wn_RX0 rfl x_dv0 (by decide) (by decide) ?_
  refine E_dup dX3_init_19 rfl ?_
  refine cs_X3_init_20 (Nat.le_of_ble_eq_true rfl) (by decide) (c_Game_init (m0 := [.inr (3, [.ref 1, .null, .null, .null, .null, .null, .int 0])] ++ gCells 1 (gI 60)) rfl) ?_
  refine pf_X3_16 dX3_init_23 rfl rfl rfl (Nat.le_of_ble_eq_true rfl) ?_
  refine E_mem (mem' := [.inr (3, [.ref 1, .ref 10, .null, .null, .null, .null, .int 0])] ++ gCells 1 (gI 60) ++ gCells 10 (gI 60)) rfl ?_
  refine E_aload_n dX3_init_26 (by rfl) ?_
  refine E_newL (L := 19) (T := TX0) (N := 13) (ci := 0) rfl dX3_init_27 xin_X0 tyX0_ok rfl wk_X3_7 wt_X0 wn_RX0 rfl x_dv0 (by decide) (by decide) ?_
  refine E_dup dX3_init_30 rfl ?_
  refine cs_X3_init_31 (Nat.le_of_ble_eq_true rfl) (by decide) (c_Game_init (m0 := [.inr (3, [.ref 1, .ref 10, .null, .null, .null, .null, .int 0])] ++ gCells 1 (gI 60) ++ gCells 10 (gI 60)) rfl) ?_
  refine pf_X3_19 dX3_init_34 rfl rfl rfl (Nat.le_of_ble_eq_true rfl) ?_
  refine E_mem (mem' := [.inr (3, [.ref 1, .ref 10, .ref 19, .null, .null, .null, .int 0])] ++ gCells 1 (gI 60) ++ gCells 10 (gI 60) ++ gCells 19 (gI 60)) rfl ?_
  refine E_aload_n dX3_init_37 (by rfl) ?_
  refine E_newL (L := 28) (T := TX0) (N := 13) (ci := 0) rfl dX3_init_38 xin_X0 tyX0_ok rfl wk_X3_7 wt_X0 wn_RX0 rfl x_dv0 (by decide) (by decide) ?_
  refine E_dup dX3_init_41 rfl ?_
  refine cs_X3_init_42 (Nat.le_of_ble_eq_true rfl) (by decide) (c_Game_init (m0 := [.inr (3, [.ref 1, .ref 10, .ref 19, .null, .null, .null, .int 0])] ++ gCells 1 (gI 60) ++ gCells 10 (gI 60) ++ gCells 19 (gI 60)) rfl) ?_
  refine pf_X3_22 dX3_init_45 rfl rfl rfl (Nat.le_of_ble_eq_true rfl) ?_
  refine E_mem (mem' := [.inr (3, [.ref 1, .ref 10, .ref 19, .ref 28, .null, .null, .int 0])] ++ gCells 1 (gI 60) ++ gCells 10 (gI 60) ++ gCells 19 (gI 60) ++ gCells 28 (gI 60)) rfl ?_
  refine E_aload_n dX3_init_48 (by rfl) ?_
  refine E_newL (L := 37) (T := TX1) (N := 2) (ci := 1) rfl dX3_init_49 xin_X1 tyX1_ok rfl wk_X3_25 wt_X1 wn_RX1 rfl x_dv1 (by decide) (by decide) ?_
  refine E_dup dX3_init_52 rfl ?_
  refine cs_X3_init_53 (Nat.le_of_ble_eq_true rfl) (by decide) (c_History_init (m0 := [.inr (3, [.ref 1, .ref 10, .ref 19, .ref 28, .null, .null, .int 0])] ++ gCells 1 (gI 60) ++ gCells 10 (gI 60) ++ gCells 19 (gI 60) ++ gCells 28 (gI 60)) rfl) ?_
  refine pf_X3_28 dX3_init_56 rfl rfl rfl (Nat.le_of_ble_eq_true rfl) ?_
  refine E_mem (mem' := [.inr (3, [.ref 1, .ref 10, .ref 19, .ref 28, .ref 37, .null, .int 0])] ++ gCells 1 (gI 60) ++ gCells 10 (gI 60) ++ gCells 19 (gI 60) ++ gCells 28 (gI 60) ++ [h_o 0, h_r (h_f 5)] ++ gms 5) rfl ?_
  refine E_aload_n dX3_init_59 (by rfl) ?_
  refine E_newL (L := 84) (T := TX2) (N := 2) (ci := 2) rfl dX3_init_60 xin_X2 tyX2_ok rfl wk_X3_32 wt_X2 wn_RX2 rfl x_dv2 (by decide) (by decide) ?_
  refine E_dup dX3_init_63 rfl ?_
  refine cs_X3_init_64 (Nat.le_of_ble_eq_true rfl) (by decide) (c_Text_init (m0 := [.inr (3, [.ref 1, .ref 10, .ref 19, .ref 28, .ref 37, .null, .int 0])] ++ gCells 1 (gI 60) ++ gCells 10 (gI 60) ++ gCells 19 (gI 60) ++ gCells 28 (gI 60) ++ [h_o 0, h_r (h_f 5)] ++ gms 5) rfl) ?_
  refine pf_X3_35 dX3_init_67 rfl rfl rfl (Nat.le_of_ble_eq_true rfl) ?_
  refine E_mem (mem' := cM0) rfl ?_
  refine E_aload_n dX3_init_70 (by rfl) ?_
  refine E_iconst (v := 0) dX3_init_71 (by decide) ?_
  refine pf_X3_39 dX3_init_72 rfl (by decide) rfl (Nat.le_of_ble_eq_true rfl) ?_
  refine E_vret dX3_init_75 rfl (by decide) (by decide) ?_
  exact ⟨rfl, rfl⟩
abbrev cS0 : cS := (gI 60, gI 60, gI 60, gI 60, 0, 0, fun _ => gI 60, 0, fun _ => 0)
theorem cAt_0 (X : xM) : cAt (cM0 ++ X) cS0 := by
  refine ⟨rfl, ⟨rfl, rfl, rfl, rfl, rfl, rfl, rfl, rfl, rfl⟩, ⟨rfl, rfl, rfl, rfl, rfl, rfl, rfl, rfl, rfl⟩, ⟨rfl, rfl, rfl, rfl, rfl, rfl, rfl, rfl, rfl⟩, ⟨rfl, rfl, rfl, rfl, rfl, rfl, rfl, rfl, rfl⟩, ⟨fun j => 39 + 9 * j, rfl, ⟨h_f 5, rfl, fun j hj => if_pos hj⟩, fun j hj => ?_, fun j hj => by show 39 ≤ 39 + 9 * j ∧ 39 + 9 * j + 9 ≤ 84; omega, fun i j hi hj hij => by show 39 + 9 * i + 9 ≤ 39 + 9 * j ∨ 39 + 9 * j + 9 ≤ 39 + 9 * i; omega⟩, rfl, rfl⟩
  match j, hj with
  | 0, _ => exact ⟨rfl, rfl, rfl, rfl, rfl, rfl, rfl, rfl, rfl⟩
  | 1, _ => exact ⟨rfl, rfl, rfl, rfl, rfl, rfl, rfl, rfl, rfl⟩
  | 2, _ => exact ⟨rfl, rfl, rfl, rfl, rfl, rfl, rfl, rfl, rfl⟩
  | 3, _ => exact ⟨rfl, rfl, rfl, rfl, rfl, rfl, rfl, rfl, rfl⟩
  | 4, _ => exact ⟨rfl, rfl, rfl, rfl, rfl, rfl, rfl, rfl, rfl⟩
/-! the reference -/
abbrev m_oN : va_E := .inr (4, [.null, .null, .int 0, .null, .int 0, .null, .null, .int 0, .null, .null, .int 0, .int 0, .int 0])
abbrev m_o (pm ik ty tm sp wr : Int32) : va_E := .inr (4, [.ref 87, .ref 88, .int pm, .ref 89, .int ik, .ref 90, .ref 91, .int ty, .ref 92, .ref 93, .int tm, .int sp, .int wr])
end M1
