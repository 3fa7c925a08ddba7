/-! the reference: its making -/
section NB
variable {G : xG}
abbrev mS0 : mS := (upd (fun _ => 0) 0 30, fun _ => 0, 0, fun _ => 0, 0, fun _ => 0, fun _ => 0, 0, fun _ => 0, fun _ => 0, 0, 0, 0)
theorem n_in0 (c : Int32) (h : c = 0) (m0 : xM) (hg : m0.length = 86) (A B C D E F c1 : va_E) : (m0 ++ [A, .inl (0, 118, .inl (fun _ => 0)), B, C, D, E, F, c1]).set (86 + 1) (.inl (0, 118, .inl (upd (fun _ => 0) c.toNatClampNeg 30))) = m0 ++ [A, .inl (0, 118, .inl (upd (fun _ => 0) 0 30)), B, C, D, E, F, c1] := by
  subst h
  exact x_app_set (j := 1) hg
theorem n_init (m0 : xM) (hg : m0.length = 86) : Dt G kX4_init [.ref 86] (m0 ++ [m_oN]) none (m0 ++ mCells mS0) := by
  have hg : m0.length = 86 := hg
  refine Ct_of (by decide) (Nat.le_of_ble_eq_true rfl) ?_
  refine E_aload_n dX4_init_0 (by rfl) ?_
  refine E_objInit dX4_init_1 rfl wl_X4_1 w_oin w_oco (Nat.le_of_ble_eq_true rfl) (Nat.le_of_ble_eq_true rfl) ?_
  refine E_aload_n dX4_init_4 (by rfl) ?_
  refine E_bipush (v := 118) dX4_init_5 (by decide) ?_
  refine x_newi (N := 118) (j := 1) hg rfl dX4_init_7 wa_int (by decide) (by decide) (by decide) (by decide) (by decide) ?_
  refine E_mem (mem' := m0 ++ [.inr (4, [.null, .null, .int 0, .null, .int 0, .null, .null, .int 0, .null, .null, .int 0, .int 0, .int 0]), .inl (0, 118, .inl (fun _ => 0))]) rfl ?_
  refine pf_X4_7 dX4_init_9 rfl rfl (x_app_get0 hg rfl) (Nat.le_of_ble_eq_true rfl) ?_
  refine E_mem (mem' := m0 ++ [.inr (4, [.ref (86 + 1), .null, .int 0, .null, .int 0, .null, .null, .int 0, .null, .null, .int 0, .int 0, .int 0]), .inl (0, 118, .inl (fun _ => 0))]) (x_app_set0 hg) ?_
  refine E_aload_n dX4_init_12 (by rfl) ?_
  refine E_sipush (v := 590) dX4_init_13 (by decide) ?_
  refine x_newi (N := 590) (j := 2) hg rfl dX4_init_16 wa_int (by decide) (by decide) (by decide) (by decide) (by decide) ?_
  refine E_mem (mem' := m0 ++ [.inr (4, [.ref (86 + 1), .null, .int 0, .null, .int 0, .null, .null, .int 0, .null, .null, .int 0, .int 0, .int 0]), .inl (0, 118, .inl (fun _ => 0)), .inl (0, 590, .inl (fun _ => 0))]) rfl ?_
  refine pf_X4_13 dX4_init_18 rfl rfl (x_app_get0 hg rfl) (Nat.le_of_ble_eq_true rfl) ?_
  refine E_mem (mem' := m0 ++ [.inr (4, [.ref (86 + 1), .ref (86 + 2), .int 0, .null, .int 0, .null, .null, .int 0, .null, .null, .int 0, .int 0, .int 0]), .inl (0, 118, .inl (fun _ => 0)), .inl (0, 590, .inl (fun _ => 0))]) (x_app_set0 hg) ?_
  refine E_aload_n dX4_init_21 (by rfl) ?_
  refine E_bipush (v := 118) dX4_init_22 (by decide) ?_
  refine x_newi (N := 118) (j := 3) hg rfl dX4_init_24 wa_int (by decide) (by decide) (by decide) (by decide) (by decide) ?_
  refine E_mem (mem' := m0 ++ [.inr (4, [.ref (86 + 1), .ref (86 + 2), .int 0, .null, .int 0, .null, .null, .int 0, .null, .null, .int 0, .int 0, .int 0]), .inl (0, 118, .inl (fun _ => 0)), .inl (0, 590, .inl (fun _ => 0)), .inl (0, 118, .inl (fun _ => 0))]) rfl ?_
  refine pf_X4_16 dX4_init_26 rfl rfl (x_app_get0 hg rfl) (Nat.le_of_ble_eq_true rfl) ?_
  refine E_mem (mem' := m0 ++ [.inr (4, [.ref (86 + 1), .ref (86 + 2), .int 0, .ref (86 + 3), .int 0, .null, .null, .int 0, .null, .null, .int 0, .int 0, .int 0]), .inl (0, 118, .inl (fun _ => 0)), .inl (0, 590, .inl (fun _ => 0)), .inl (0, 118, .inl (fun _ => 0))]) (x_app_set0 hg) ?_
  refine E_aload_n dX4_init_29 (by rfl) ?_
  refine E_bipush (v := 118) dX4_init_30 (by decide) ?_
  refine x_newi (N := 118) (j := 4) hg rfl dX4_init_32 wa_int (by decide) (by decide) (by decide) (by decide) (by decide) ?_
  refine E_mem (mem' := m0 ++ [.inr (4, [.ref (86 + 1), .ref (86 + 2), .int 0, .ref (86 + 3), .int 0, .null, .null, .int 0, .null, .null, .int 0, .int 0, .int 0]), .inl (0, 118, .inl (fun _ => 0)), .inl (0, 590, .inl (fun _ => 0)), .inl (0, 118, .inl (fun _ => 0)), .inl (0, 118, .inl (fun _ => 0))]) rfl ?_
  refine pf_X4_19 dX4_init_34 rfl rfl (x_app_get0 hg rfl) (Nat.le_of_ble_eq_true rfl) ?_
  refine E_mem (mem' := m0 ++ [.inr (4, [.ref (86 + 1), .ref (86 + 2), .int 0, .ref (86 + 3), .int 0, .ref (86 + 4), .null, .int 0, .null, .null, .int 0, .int 0, .int 0]), .inl (0, 118, .inl (fun _ => 0)), .inl (0, 590, .inl (fun _ => 0)), .inl (0, 118, .inl (fun _ => 0)), .inl (0, 118, .inl (fun _ => 0))]) (x_app_set0 hg) ?_
  refine E_aload_n dX4_init_37 (by rfl) ?_
  refine E_bipush (v := 60) dX4_init_38 (by decide) ?_
  refine x_newc (N := 60) (j := 5) hg rfl dX4_init_40 wa_char (by decide) (by decide) (by decide) (by decide) (by decide) ?_
  refine E_mem (mem' := m0 ++ [.inr (4, [.ref (86 + 1), .ref (86 + 2), .int 0, .ref (86 + 3), .int 0, .ref (86 + 4), .null, .int 0, .null, .null, .int 0, .int 0, .int 0]), .inl (0, 118, .inl (fun _ => 0)), .inl (0, 590, .inl (fun _ => 0)), .inl (0, 118, .inl (fun _ => 0)), .inl (0, 118, .inl (fun _ => 0)), .inl (2, 60, .inl (fun _ => 0))]) rfl ?_
  refine pf_X4_22 dX4_init_42 rfl rfl (x_app_get0 hg rfl) (Nat.le_of_ble_eq_true rfl) ?_
  refine E_mem (mem' := m0 ++ [.inr (4, [.ref (86 + 1), .ref (86 + 2), .int 0, .ref (86 + 3), .int 0, .ref (86 + 4), .ref (86 + 5), .int 0, .null, .null, .int 0, .int 0, .int 0]), .inl (0, 118, .inl (fun _ => 0)), .inl (0, 590, .inl (fun _ => 0)), .inl (0, 118, .inl (fun _ => 0)), .inl (0, 118, .inl (fun _ => 0)), .inl (2, 60, .inl (fun _ => 0))]) (x_app_set0 hg) ?_
  refine E_aload_n dX4_init_45 (by rfl) ?_
  refine E_bipush (v := 61) dX4_init_46 (by decide) ?_
  refine x_newi (N := 61) (j := 6) hg rfl dX4_init_48 wa_int (by decide) (by decide) (by decide) (by decide) (by decide) ?_
  refine E_mem (mem' := m0 ++ [.inr (4, [.ref (86 + 1), .ref (86 + 2), .int 0, .ref (86 + 3), .int 0, .ref (86 + 4), .ref (86 + 5), .int 0, .null, .null, .int 0, .int 0, .int 0]), .inl (0, 118, .inl (fun _ => 0)), .inl (0, 590, .inl (fun _ => 0)), .inl (0, 118, .inl (fun _ => 0)), .inl (0, 118, .inl (fun _ => 0)), .inl (2, 60, .inl (fun _ => 0)), .inl (0, 61, .inl (fun _ => 0))]) rfl ?_
  refine pf_X4_26 dX4_init_50 rfl rfl (x_app_get0 hg rfl) (Nat.le_of_ble_eq_true rfl) ?_
  refine E_mem (mem' := m0 ++ [.inr (4, [.ref (86 + 1), .ref (86 + 2), .int 0, .ref (86 + 3), .int 0, .ref (86 + 4), .ref (86 + 5), .int 0, .ref (86 + 6), .null, .int 0, .int 0, .int 0]), .inl (0, 118, .inl (fun _ => 0)), .inl (0, 590, .inl (fun _ => 0)), .inl (0, 118, .inl (fun _ => 0)), .inl (0, 118, .inl (fun _ => 0)), .inl (2, 60, .inl (fun _ => 0)), .inl (0, 61, .inl (fun _ => 0))]) (x_app_set0 hg) ?_
  refine E_aload_n dX4_init_53 (by rfl) ?_
  refine E_bipush (v := 93) dX4_init_54 (by decide) ?_
  refine x_newi (N := 93) (j := 7) hg rfl dX4_init_56 wa_int (by decide) (by decide) (by decide) (by decide) (by decide) ?_
  refine E_mem (mem' := m0 ++ [.inr (4, [.ref (86 + 1), .ref (86 + 2), .int 0, .ref (86 + 3), .int 0, .ref (86 + 4), .ref (86 + 5), .int 0, .ref (86 + 6), .null, .int 0, .int 0, .int 0]), .inl (0, 118, .inl (fun _ => 0)), .inl (0, 590, .inl (fun _ => 0)), .inl (0, 118, .inl (fun _ => 0)), .inl (0, 118, .inl (fun _ => 0)), .inl (2, 60, .inl (fun _ => 0)), .inl (0, 61, .inl (fun _ => 0)), .inl (0, 93, .inl (fun _ => 0))]) rfl ?_
  refine pf_X4_29 dX4_init_58 rfl rfl (x_app_get0 hg rfl) (Nat.le_of_ble_eq_true rfl) ?_
  refine E_mem (mem' := m0 ++ [.inr (4, [.ref (86 + 1), .ref (86 + 2), .int 0, .ref (86 + 3), .int 0, .ref (86 + 4), .ref (86 + 5), .int 0, .ref (86 + 6), .ref (86 + 7), .int 0, .int 0, .int 0]), .inl (0, 118, .inl (fun _ => 0)), .inl (0, 590, .inl (fun _ => 0)), .inl (0, 118, .inl (fun _ => 0)), .inl (0, 118, .inl (fun _ => 0)), .inl (2, 60, .inl (fun _ => 0)), .inl (0, 61, .inl (fun _ => 0)), .inl (0, 93, .inl (fun _ => 0))]) (x_app_set0 hg) ?_
  refine E_aload_n dX4_init_61 (by rfl) ?_
  refine gf_X4_7 dX4_init_62 rfl (x_app_get0 hg rfl) (by rfl) ?_
  refine E_iconst (v := 0) dX4_init_65 (by decide) ?_
  refine E_bipush (v := 30) dX4_init_66 (by decide) ?_
  refine E_iast dX4_init_68 (x_app_get (j := 1) hg rfl) (i_in (by decide) (by decide)) ?_
  refine E_mem (n_in0 0 rfl m0 hg _ _ _ _ _ _ _) ?_
  refine E_vret dX4_init_69 rfl (by decide) (by decide) ?_
  exact ⟨rfl, rfl⟩
end NB
