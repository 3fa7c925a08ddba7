/-! the making of the objects -/
section M1
variable {G : xG} {k : xI} {R : Option Value → xM → Prop} {ce sl : Nat} {m0 mem cs : xM} {pc g : Nat} {loc : Nat → Option Value} {st : List Value}
theorem x_app_set {j : Nat} {c : va_E} (hg : m0.length = g) : (m0 ++ cs).set (g + j) c = m0 ++ cs.set j c := by
  rw [List.set_append, if_neg (by omega), show g + j - m0.length = j by omega]
theorem x_app_set0 {c : va_E} (hg : m0.length = g) : (m0 ++ cs).set g c = m0 ++ cs.set 0 c := x_app_set (j := 0) hg
theorem x_app_get {j : Nat} {c : va_E} (hg : m0.length = g) (h : cs[j]? = some c) : (m0 ++ cs)[g + j]? = some c := by
  rw [List.getElem?_append_right (by omega), show g + j - m0.length = j by omega]
  exact h
theorem x_app_get0 {c : va_E} (hg : m0.length = g) (h : cs[0]? = some c) : (m0 ++ cs)[g]? = some c := x_app_get (j := 0) hg h
theorem x_newi {n : Int32} {N j : Nat} (hg : m0.length = g) (hj : cs.length = j) (hd : decode k.2.1 pc = .ok (.newarray .int, 2)) (harr : Cond.arrayClass .int ∈ x_tbl) (hn : ¬ n < 0) (hN : n.toNatClampNeg = N) (hbytes : N * componentBytes .int ≤ 536870912) (hc : ce + 1 ≤ k.2.2.2.2.2.2.1) (hs : sl + N ≤ k.2.2.2.2.2.2.2) (kk : E G k R (ce + 1) (sl + N) (m0 ++ (cs ++ [.inl (0, N, .inl (fun _ => 0))])) (pc + 2) loc (.ref (g + j) :: st)) : E G k R ce sl (m0 ++ cs) pc loc (.int n :: st) := by
  refine E_newi hd harr hn hN hbytes hc hs ?_
  rw [List.append_assoc, List.length_append, hg, hj]
  exact kk
theorem x_newz {n : Int32} {N j : Nat} (hg : m0.length = g) (hj : cs.length = j) (hd : decode k.2.1 pc = .ok (.newarray .boolean, 2)) (harr : Cond.arrayClass .boolean ∈ x_tbl) (hn : ¬ n < 0) (hN : n.toNatClampNeg = N) (hbytes : N * componentBytes .boolean ≤ 536870912) (hc : ce + 1 ≤ k.2.2.2.2.2.2.1) (hs : sl + N ≤ k.2.2.2.2.2.2.2) (kk : E G k R (ce + 1) (sl + N) (m0 ++ (cs ++ [.inl (1, N, .inl (fun _ => 0))])) (pc + 2) loc (.ref (g + j) :: st)) : E G k R ce sl (m0 ++ cs) pc loc (.int n :: st) := by
  refine E_newz hd harr hn hN hbytes hc hs ?_
  rw [List.append_assoc, List.length_append, hg, hj]
  exact kk
theorem x_newc {n : Int32} {N j : Nat} (hg : m0.length = g) (hj : cs.length = j) (hd : decode k.2.1 pc = .ok (.newarray .char, 2)) (harr : Cond.arrayClass .char ∈ x_tbl) (hn : ¬ n < 0) (hN : n.toNatClampNeg = N) (hbytes : N * componentBytes .char ≤ 536870912) (hc : ce + 1 ≤ k.2.2.2.2.2.2.1) (hs : sl + N ≤ k.2.2.2.2.2.2.2) (kk : E G k R (ce + 1) (sl + N) (m0 ++ (cs ++ [.inl (2, N, .inl (fun _ => 0))])) (pc + 2) loc (.ref (g + j) :: st)) : E G k R ce sl (m0 ++ cs) pc loc (.int n :: st) := by
  refine E_newc hd harr hn hN hbytes hc hs ?_
  rw [List.append_assoc, List.length_append, hg, hj]
  exact kk
abbrev g_o0 : va_E := .inr (0, [.null, .null, .null, .null, .null, .null, .null, .null, .int 0, .int 0, .int 0, .int 0, .int 0])
def gI (i : Nat) : gS := (fun j => if j < i then -6 else 0, fun _ => 0, fun _ => 0, fun _ => 0, fun _ => 0, fun _ => 0, fun _ => 0, fun _ => 0, 30, 0, 0, 0, 0)
theorem gI_step (i : Nat) : upd (g_le (gI i)) i (-6) = g_le (gI (i + 1)) := by
  funext j
  unfold upd gI
  by_cases h : j = i
  · subst h; rw [if_pos rfl, if_pos (by omega)]
  · rw [if_neg h]
    by_cases h2 : j < i
    · rw [if_pos h2, if_pos (by omega)]
    · rw [if_neg h2, if_neg (by omega)]
theorem c_Game_init (hg : m0.length = g) : Dt G kX0_init [.ref g] (m0 ++ [g_o0]) none (m0 ++ gCells g (gI 60)) := by
  refine Ct_of (by decide) (Nat.le_of_ble_eq_true rfl) ?_
  have loop : ∀ di i : Nat, 60 < i + di → i ≤ 60 → E G kX0_init (x_R (none) (m0 ++ gCells g (gI 60))) 8 156 ((m0 ++ gCells g (gI i))) 96 (x_L [(0, .ref g), (1, .int (nI i))]) [] := by
    intro di
    induction di with
    | zero => intro i hi1 hi2; exact absurd hi1 (by omega)
    | succ di ihi =>
      intro i hi1 hi2
      have ei : (nI i).toInt = (i : Int) := nI_toInt (by omega)
      have eci : (nI i).toNatClampNeg = i := nI_clamp (by omega)
      have a0 : (m0 ++ gCells g (gI i))[g]? = some (g_o g (gI i)) := x_app_get0 hg rfl
      have a1 : (m0 ++ gCells g (gI i))[g + 1]? = some (g_a 0 60 (g_le (gI i))) := x_app_get hg rfl
      refine E_iload_n dX0_init_96 (by rfl) ?_
      refine E_bipush (v := 60) dX0_init_97 (by decide) ?_
      refine E_icmp_ge (n := 60) (by decide) (tgt := 116) dX0_init_99 (by decide) (fun q99 => ?_) (fun q99 => ?_)
      · refine E_vret dX0_init_116 rfl (by decide) (by decide) ?_
        exact ⟨rfl, by rw [show i = 60 by omega]⟩
      · refine E_aload_n dX0_init_102 (by rfl) ?_
        refine gf_X0_9 dX0_init_103 rfl (by assumption) (by rfl) ?_
        refine E_iload_n dX0_init_106 (by rfl) ?_
        refine E_bipush (v := (-6)) dX0_init_107 (by decide) ?_
        refine E_iast dX0_init_109 (by assumption) (i_in (by omega) (by omega)) ?_
        refine E_iinc (d := 1) dX0_init_110 (by rfl) (by decide) (Nat.le_of_ble_eq_true rfl) (by rfl) ?_
        refine E_goto (tgt := 96) dX0_init_113 (by decide) ?_
        refine E_mem (mem' := m0 ++ gCells g (gI (i + 1))) ((x_app_set hg).trans ?_) ?_
        · rw [eci, gI_step]; rfl
        exact E_loc [(0, .ref g), (1, .int (nI (i + 1)))] ⟨rfl, x_i (by first | exact nI_1 _ | decide), trivial⟩ (ihi (i + 1) (by omega) (by omega))
  refine E_aload_n dX0_init_0 (by rfl) ?_
  refine E_objInit dX0_init_1 rfl wl_X0_3 w_oin w_oco (Nat.le_of_ble_eq_true rfl) (Nat.le_of_ble_eq_true rfl) ?_
  refine E_aload_n dX0_init_4 (by rfl) ?_
  refine E_bipush (v := 60) dX0_init_5 (by decide) ?_
  refine x_newi (N := 60) (j := 1) hg rfl dX0_init_7 wa_int (by decide) (by decide) (by decide) (by decide) (by decide) ?_
  refine pf_X0_9 dX0_init_9 rfl rfl (x_app_get0 hg rfl) (Nat.le_of_ble_eq_true rfl) ?_
  refine E_mem (x_app_set0 hg) ?_
  refine E_aload_n dX0_init_12 (by rfl) ?_
  refine E_bipush (v := 60) dX0_init_13 (by decide) ?_
  refine x_newz (N := 60) (j := 2) hg rfl dX0_init_15 wa_boolean (by decide) (by decide) (by decide) (by decide) (by decide) ?_
  refine pf_X0_15 dX0_init_17 rfl rfl (x_app_get0 hg rfl) (Nat.le_of_ble_eq_true rfl) ?_
  refine E_mem (x_app_set0 hg) ?_
  refine E_aload_n dX0_init_20 (by rfl) ?_
  refine E_bipush (v := 6) dX0_init_21 (by decide) ?_
  refine x_newi (N := 6) (j := 3) hg rfl dX0_init_23 wa_int (by decide) (by decide) (by decide) (by decide) (by decide) ?_
  refine pf_X0_19 dX0_init_25 rfl rfl (x_app_get0 hg rfl) (Nat.le_of_ble_eq_true rfl) ?_
  refine E_mem (x_app_set0 hg) ?_
  refine E_aload_n dX0_init_28 (by rfl) ?_
  refine E_bipush (v := 6) dX0_init_29 (by decide) ?_
  refine x_newi (N := 6) (j := 4) hg rfl dX0_init_31 wa_int (by decide) (by decide) (by decide) (by decide) (by decide) ?_
  refine pf_X0_22 dX0_init_33 rfl rfl (x_app_get0 hg rfl) (Nat.le_of_ble_eq_true rfl) ?_
  refine E_mem (x_app_set0 hg) ?_
  refine E_aload_n dX0_init_36 (by rfl) ?_
  refine E_bipush (v := 6) dX0_init_37 (by decide) ?_
  refine x_newi (N := 6) (j := 5) hg rfl dX0_init_39 wa_int (by decide) (by decide) (by decide) (by decide) (by decide) ?_
  refine pf_X0_25 dX0_init_41 rfl rfl (x_app_get0 hg rfl) (Nat.le_of_ble_eq_true rfl) ?_
  refine E_mem (x_app_set0 hg) ?_
  refine E_aload_n dX0_init_44 (by rfl) ?_
  refine E_bipush (v := 6) dX0_init_45 (by decide) ?_
  refine x_newi (N := 6) (j := 6) hg rfl dX0_init_47 wa_int (by decide) (by decide) (by decide) (by decide) (by decide) ?_
  refine pf_X0_28 dX0_init_49 rfl rfl (x_app_get0 hg rfl) (Nat.le_of_ble_eq_true rfl) ?_
  refine E_mem (x_app_set0 hg) ?_
  refine E_aload_n dX0_init_52 (by rfl) ?_
  refine E_bipush (v := 6) dX0_init_53 (by decide) ?_
  refine x_newi (N := 6) (j := 7) hg rfl dX0_init_55 wa_int (by decide) (by decide) (by decide) (by decide) (by decide) ?_
  refine pf_X0_31 dX0_init_57 rfl rfl (x_app_get0 hg rfl) (Nat.le_of_ble_eq_true rfl) ?_
  refine E_mem (x_app_set0 hg) ?_
  refine E_aload_n dX0_init_60 (by rfl) ?_
  refine E_bipush (v := 6) dX0_init_61 (by decide) ?_
  refine x_newi (N := 6) (j := 8) hg rfl dX0_init_63 wa_int (by decide) (by decide) (by decide) (by decide) (by decide) ?_
  refine pf_X0_34 dX0_init_65 rfl rfl (x_app_get0 hg rfl) (Nat.le_of_ble_eq_true rfl) ?_
  refine E_mem (x_app_set0 hg) ?_
  refine E_aload_n dX0_init_68 (by rfl) ?_
  refine E_bipush (v := 30) dX0_init_69 (by decide) ?_
  refine pf_X0_37 dX0_init_71 rfl (x_app_get0 hg rfl) (Nat.le_of_ble_eq_true rfl) ?_
  refine E_mem (x_app_set0 hg) ?_
  refine E_aload_n dX0_init_74 (by rfl) ?_
  refine E_iconst (v := 0) dX0_init_75 (by decide) ?_
  refine pf_X0_41 dX0_init_76 rfl (x_app_get0 hg rfl) (Nat.le_of_ble_eq_true rfl) ?_
  refine E_mem (x_app_set0 hg) ?_
  refine E_aload_n dX0_init_79 (by rfl) ?_
  refine E_iconst (v := 0) dX0_init_80 (by decide) ?_
  refine pf_X0_44 dX0_init_81 rfl (x_app_get0 hg rfl) (Nat.le_of_ble_eq_true rfl) ?_
  refine E_mem (x_app_set0 hg) ?_
  refine E_aload_n dX0_init_84 (by rfl) ?_
  refine E_iconst (v := 0) dX0_init_85 (by decide) ?_
  refine pf_X0_47 dX0_init_86 rfl (x_app_get0 hg rfl) (Nat.le_of_ble_eq_true rfl) ?_
  refine E_mem (x_app_set0 hg) ?_
  refine E_aload_n dX0_init_89 (by rfl) ?_
  refine E_iconst (v := 0) dX0_init_90 (by decide) ?_
  refine pf_X0_50 dX0_init_91 rfl (x_app_get0 hg rfl) (Nat.le_of_ble_eq_true rfl) ?_
  refine E_mem (x_app_set0 hg) ?_
  refine E_iconst (v := 0) dX0_init_94 (by decide) ?_
  refine E_istore_n dX0_init_95 (Nat.le_of_ble_eq_true rfl) (by rfl) ?_
  exact E_loc [(0, .ref g), (1, .int (nI 0))] ⟨rfl, x_i (by first | rfl | decide), trivial⟩ (loop (60 + 1) 0 (by omega) (by omega))
/-! History: five games -/
abbrev h_rN : va_E := .inl (3, 5, .inr (.inr (.inr (.inr (fun _ => none)))))
end M1
