/-! LiftingStairs: the methods of the face, but play -/
section K2
variable {G : xG} {mem : xM} {C : cS} {S T : gS} {t n : Nat}
abbrev cAh (C : cS) : cS := (C.1, C.1, C.2.2)
theorem c_toAhead (h : cAt mem C) (hla : g_la01 (k_gm C)) : Dt G kX0_copyFrom [.ref 10, .ref 1] mem none (gPut mem 10 (k_gm C)) := by
  have z := c_copyFrom (G := G) (T := k_ah C) h.2.2.1 h.2.1 (by decide) hla
  rw [gPut_self h.2.2.1] at z
  exact z
theorem k_setTop_no (h : cAt mem C) (hla : g_la01 (k_gm C)) {a1 : Int32} {r : Int32} (hop : Dt G kX0_changeTop [.ref 1, .int a1] (gPut mem 10 (k_gm C)) (some (.int r)) (gPut mem 10 (k_gm C))) (hr : r.toInt < 0) : Pt G kX3_setTop [.ref 0, .int a1] mem (some (.int r)) (cDone mem (cAh C)) := by
  have hA := cAt_ah h (k_gm C)
  have a0 := h.1
  have g0 := h.2.1.1
  have g1 := h.2.2.1.1
  have b0 := hA.1
  have b1 := hA.2.1.1
  refine Ct_of (by decide) (Nat.le_of_ble_eq_true rfl) ?_
  refine E_aload_n dX3_setTop_0 (by rfl) ?_
  refine gf_X3_16 dX3_setTop_1 rfl (by assumption) (by rfl) ?_
  refine E_aload_n dX3_setTop_4 (by rfl) ?_
  refine gf_X3_10 dX3_setTop_5 rfl (by assumption) (by rfl) ?_
  refine cs_X3_setTop_8 (by assumption) (Nat.le_of_ble_eq_true rfl) (c_toAhead h hla) ?_
  refine E_aload_n dX3_setTop_11 (by rfl) ?_
  refine E_aload_n dX3_setTop_12 (by rfl) ?_
  refine gf_X3_10 dX3_setTop_13 rfl (by assumption) (by rfl) ?_
  refine E_iload_n dX3_setTop_16 (by rfl) ?_
  refine cs_X3_setTop_17 (by assumption) (Nat.le_of_ble_eq_true rfl) hop ?_
  refine cs_X3_setTop_20 (by assumption) (Nat.le_of_ble_eq_true rfl) (c_rec_no hA r hr) ?_
  refine E_iret dX3_setTop_23 rfl rfl (Nat.zero_le _) (Nat.zero_le _) ?_
  exact ⟨rfl, hA, xS86.put h.2.2.1 (by decide)⟩
theorem k_setTop_ok (h : cAt mem C) (hc : k_c C ≤ 5) (hla : g_la01 (k_gm C)) {a1 : Int32} {r : Int32} (hop : Dt G kX0_changeTop [.ref 1, .int a1] (gPut mem 10 (k_gm C)) (some (.int r)) (gPut (gPut mem 10 (k_gm C)) 1 T)) (hr : 0 ≤ r.toInt) : Pt G kX3_setTop [.ref 0, .int a1] mem (some (.int r)) (cDone mem (cRec (T, C.1, C.2.2))) := by
  have hA := cAt_ah h (k_gm C)
  have hB := cAt_gm hA T
  have a0 := h.1
  have g0 := h.2.1.1
  have g1 := h.2.2.1.1
  have b0 := hA.1
  have b1 := hA.2.1.1
  have d0 := hB.1
  refine Ct_of (by decide) (Nat.le_of_ble_eq_true rfl) ?_
  refine E_aload_n dX3_setTop_0 (by rfl) ?_
  refine gf_X3_16 dX3_setTop_1 rfl (by assumption) (by rfl) ?_
  refine E_aload_n dX3_setTop_4 (by rfl) ?_
  refine gf_X3_10 dX3_setTop_5 rfl (by assumption) (by rfl) ?_
  refine cs_X3_setTop_8 (by assumption) (Nat.le_of_ble_eq_true rfl) (c_toAhead h hla) ?_
  refine E_aload_n dX3_setTop_11 (by rfl) ?_
  refine E_aload_n dX3_setTop_12 (by rfl) ?_
  refine gf_X3_10 dX3_setTop_13 rfl (by assumption) (by rfl) ?_
  refine E_iload_n dX3_setTop_16 (by rfl) ?_
  refine cs_X3_setTop_17 (by assumption) (Nat.le_of_ble_eq_true rfl) hop ?_
  refine cp_X3_setTop_20 (by assumption) (Nat.le_of_ble_eq_true rfl) (c_rec_ok hB hc hla r hr) (fun m20 h20 => ?_)
  refine E_iret dX3_setTop_23 rfl rfl (Nat.zero_le _) (Nat.zero_le _) ?_
  exact ⟨rfl, h20.1, xS86.tr (xS86.tr (xS86.put h.2.2.1 (by decide)) (xS86.put hA.2.1 (by decide))) h20.2⟩
theorem k_lay_no (h : cAt mem C) (hla : g_la01 (k_gm C)) {a1 a2 : Int32} {r : Int32} (hop : Dt G kX0_layCarpet [.ref 1, .int a1, .int a2] (gPut mem 10 (k_gm C)) (some (.int r)) (gPut mem 10 (k_gm C))) (hr : r.toInt < 0) : Pt G kX3_lay [.ref 0, .int a1, .int a2] mem (some (.int r)) (cDone mem (cAh C)) := by
  have hA := cAt_ah h (k_gm C)
  have a0 := h.1
  have g0 := h.2.1.1
  have g1 := h.2.2.1.1
  have b0 := hA.1
  have b1 := hA.2.1.1
  refine Ct_of (by decide) (Nat.le_of_ble_eq_true rfl) ?_
  refine E_aload_n dX3_lay_0 (by rfl) ?_
  refine gf_X3_16 dX3_lay_1 rfl (by assumption) (by rfl) ?_
  refine E_aload_n dX3_lay_4 (by rfl) ?_
  refine gf_X3_10 dX3_lay_5 rfl (by assumption) (by rfl) ?_
  refine cs_X3_lay_8 (by assumption) (Nat.le_of_ble_eq_true rfl) (c_toAhead h hla) ?_
  refine E_aload_n dX3_lay_11 (by rfl) ?_
  refine E_aload_n dX3_lay_12 (by rfl) ?_
  refine gf_X3_10 dX3_lay_13 rfl (by assumption) (by rfl) ?_
  refine E_iload_n dX3_lay_16 (by rfl) ?_
  refine E_iload_n dX3_lay_17 (by rfl) ?_
  refine cs_X3_lay_18 (by assumption) (Nat.le_of_ble_eq_true rfl) hop ?_
  refine cs_X3_lay_21 (by assumption) (Nat.le_of_ble_eq_true rfl) (c_rec_no hA r hr) ?_
  refine E_iret dX3_lay_24 rfl rfl (Nat.zero_le _) (Nat.zero_le _) ?_
  exact ⟨rfl, hA, xS86.put h.2.2.1 (by decide)⟩
theorem k_lay_ok (h : cAt mem C) (hc : k_c C ≤ 5) (hla : g_la01 (k_gm C)) {a1 a2 : Int32} {r : Int32} (hop : Dt G kX0_layCarpet [.ref 1, .int a1, .int a2] (gPut mem 10 (k_gm C)) (some (.int r)) (gPut (gPut mem 10 (k_gm C)) 1 T)) (hr : 0 ≤ r.toInt) : Pt G kX3_lay [.ref 0, .int a1, .int a2] mem (some (.int r)) (cDone mem (cRec (T, C.1, C.2.2))) := by
  have hA := cAt_ah h (k_gm C)
  have hB := cAt_gm hA T
  have a0 := h.1
  have g0 := h.2.1.1
  have g1 := h.2.2.1.1
  have b0 := hA.1
  have b1 := hA.2.1.1
  have d0 := hB.1
  refine Ct_of (by decide) (Nat.le_of_ble_eq_true rfl) ?_
  refine E_aload_n dX3_lay_0 (by rfl) ?_
  refine gf_X3_16 dX3_lay_1 rfl (by assumption) (by rfl) ?_
  refine E_aload_n dX3_lay_4 (by rfl) ?_
  refine gf_X3_10 dX3_lay_5 rfl (by assumption) (by rfl) ?_
  refine cs_X3_lay_8 (by assumption) (Nat.le_of_ble_eq_true rfl) (c_toAhead h hla) ?_
  refine E_aload_n dX3_lay_11 (by rfl) ?_
  refine E_aload_n dX3_lay_12 (by rfl) ?_
  refine gf_X3_10 dX3_lay_13 rfl (by assumption) (by rfl) ?_
  refine E_iload_n dX3_lay_16 (by rfl) ?_
  refine E_iload_n dX3_lay_17 (by rfl) ?_
  refine cs_X3_lay_18 (by assumption) (Nat.le_of_ble_eq_true rfl) hop ?_
  refine cp_X3_lay_21 (by assumption) (Nat.le_of_ble_eq_true rfl) (c_rec_ok hB hc hla r hr) (fun m21 h21 => ?_)
  refine E_iret dX3_lay_24 rfl rfl (Nat.zero_le _) (Nat.zero_le _) ?_
  exact ⟨rfl, h21.1, xS86.tr (xS86.tr (xS86.put h.2.2.1 (by decide)) (xS86.put hA.2.1 (by decide))) h21.2⟩
theorem k_take_no (h : cAt mem C) (hla : g_la01 (k_gm C)) {a1 : Int32} {r : Int32} (hop : Dt G kX0_takeCarpet [.ref 1, .int a1] (gPut mem 10 (k_gm C)) (some (.int r)) (gPut mem 10 (k_gm C))) (hr : r.toInt < 0) : Pt G kX3_take [.ref 0, .int a1] mem (some (.int r)) (cDone mem (cAh C)) := by
  have hA := cAt_ah h (k_gm C)
  have a0 := h.1
  have g0 := h.2.1.1
  have g1 := h.2.2.1.1
  have b0 := hA.1
  have b1 := hA.2.1.1
  refine Ct_of (by decide) (Nat.le_of_ble_eq_true rfl) ?_
  refine E_aload_n dX3_take_0 (by rfl) ?_
  refine gf_X3_16 dX3_take_1 rfl (by assumption) (by rfl) ?_
  refine E_aload_n dX3_take_4 (by rfl) ?_
  refine gf_X3_10 dX3_take_5 rfl (by assumption) (by rfl) ?_
  refine cs_X3_take_8 (by assumption) (Nat.le_of_ble_eq_true rfl) (c_toAhead h hla) ?_
  refine E_aload_n dX3_take_11 (by rfl) ?_
  refine E_aload_n dX3_take_12 (by rfl) ?_
  refine gf_X3_10 dX3_take_13 rfl (by assumption) (by rfl) ?_
  refine E_iload_n dX3_take_16 (by rfl) ?_
  refine cs_X3_take_17 (by assumption) (Nat.le_of_ble_eq_true rfl) hop ?_
  refine cs_X3_take_20 (by assumption) (Nat.le_of_ble_eq_true rfl) (c_rec_no hA r hr) ?_
  refine E_iret dX3_take_23 rfl rfl (Nat.zero_le _) (Nat.zero_le _) ?_
  exact ⟨rfl, hA, xS86.put h.2.2.1 (by decide)⟩
theorem k_take_ok (h : cAt mem C) (hc : k_c C ≤ 5) (hla : g_la01 (k_gm C)) {a1 : Int32} {r : Int32} (hop : Dt G kX0_takeCarpet [.ref 1, .int a1] (gPut mem 10 (k_gm C)) (some (.int r)) (gPut (gPut mem 10 (k_gm C)) 1 T)) (hr : 0 ≤ r.toInt) : Pt G kX3_take [.ref 0, .int a1] mem (some (.int r)) (cDone mem (cRec (T, C.1, C.2.2))) := by
  have hA := cAt_ah h (k_gm C)
  have hB := cAt_gm hA T
  have a0 := h.1
  have g0 := h.2.1.1
  have g1 := h.2.2.1.1
  have b0 := hA.1
  have b1 := hA.2.1.1
  have d0 := hB.1
  refine Ct_of (by decide) (Nat.le_of_ble_eq_true rfl) ?_
  refine E_aload_n dX3_take_0 (by rfl) ?_
  refine gf_X3_16 dX3_take_1 rfl (by assumption) (by rfl) ?_
  refine E_aload_n dX3_take_4 (by rfl) ?_
  refine gf_X3_10 dX3_take_5 rfl (by assumption) (by rfl) ?_
  refine cs_X3_take_8 (by assumption) (Nat.le_of_ble_eq_true rfl) (c_toAhead h hla) ?_
  refine E_aload_n dX3_take_11 (by rfl) ?_
  refine E_aload_n dX3_take_12 (by rfl) ?_
  refine gf_X3_10 dX3_take_13 rfl (by assumption) (by rfl) ?_
  refine E_iload_n dX3_take_16 (by rfl) ?_
  refine cs_X3_take_17 (by assumption) (Nat.le_of_ble_eq_true rfl) hop ?_
  refine cp_X3_take_20 (by assumption) (Nat.le_of_ble_eq_true rfl) (c_rec_ok hB hc hla r hr) (fun m20 h20 => ?_)
  refine E_iret dX3_take_23 rfl rfl (Nat.zero_le _) (Nat.zero_le _) ?_
  exact ⟨rfl, h20.1, xS86.tr (xS86.tr (xS86.put h.2.2.1 (by decide)) (xS86.put hA.2.1 (by decide))) h20.2⟩
theorem k_put_no (h : cAt mem C) (hla : g_la01 (k_gm C)) {a1 : Int32} {r : Int32} (hop : Dt G kX0_putLanding [.ref 1, .int a1] (gPut mem 10 (k_gm C)) (some (.int r)) (gPut mem 10 (k_gm C))) (hr : r.toInt < 0) : Pt G kX3_put [.ref 0, .int a1] mem (some (.int r)) (cDone mem (cAh C)) := by
  have hA := cAt_ah h (k_gm C)
  have a0 := h.1
  have g0 := h.2.1.1
  have g1 := h.2.2.1.1
  have b0 := hA.1
  have b1 := hA.2.1.1
  refine Ct_of (by decide) (Nat.le_of_ble_eq_true rfl) ?_
  refine E_aload_n dX3_put_0 (by rfl) ?_
  refine gf_X3_16 dX3_put_1 rfl (by assumption) (by rfl) ?_
  refine E_aload_n dX3_put_4 (by rfl) ?_
  refine gf_X3_10 dX3_put_5 rfl (by assumption) (by rfl) ?_
  refine cs_X3_put_8 (by assumption) (Nat.le_of_ble_eq_true rfl) (c_toAhead h hla) ?_
  refine E_aload_n dX3_put_11 (by rfl) ?_
  refine E_aload_n dX3_put_12 (by rfl) ?_
  refine gf_X3_10 dX3_put_13 rfl (by assumption) (by rfl) ?_
  refine E_iload_n dX3_put_16 (by rfl) ?_
  refine cs_X3_put_17 (by assumption) (Nat.le_of_ble_eq_true rfl) hop ?_
  refine cs_X3_put_20 (by assumption) (Nat.le_of_ble_eq_true rfl) (c_rec_no hA r hr) ?_
  refine E_iret dX3_put_23 rfl rfl (Nat.zero_le _) (Nat.zero_le _) ?_
  exact ⟨rfl, hA, xS86.put h.2.2.1 (by decide)⟩
theorem k_put_ok (h : cAt mem C) (hc : k_c C ≤ 5) (hla : g_la01 (k_gm C)) {a1 : Int32} {r : Int32} (hop : Dt G kX0_putLanding [.ref 1, .int a1] (gPut mem 10 (k_gm C)) (some (.int r)) (gPut (gPut mem 10 (k_gm C)) 1 T)) (hr : 0 ≤ r.toInt) : Pt G kX3_put [.ref 0, .int a1] mem (some (.int r)) (cDone mem (cRec (T, C.1, C.2.2))) := by
  have hA := cAt_ah h (k_gm C)
  have hB := cAt_gm hA T
  have a0 := h.1
  have g0 := h.2.1.1
  have g1 := h.2.2.1.1
  have b0 := hA.1
  have b1 := hA.2.1.1
  have d0 := hB.1
  refine Ct_of (by decide) (Nat.le_of_ble_eq_true rfl) ?_
  refine E_aload_n dX3_put_0 (by rfl) ?_
  refine gf_X3_16 dX3_put_1 rfl (by assumption) (by rfl) ?_
  refine E_aload_n dX3_put_4 (by rfl) ?_
  refine gf_X3_10 dX3_put_5 rfl (by assumption) (by rfl) ?_
  refine cs_X3_put_8 (by assumption) (Nat.le_of_ble_eq_true rfl) (c_toAhead h hla) ?_
  refine E_aload_n dX3_put_11 (by rfl) ?_
  refine E_aload_n dX3_put_12 (by rfl) ?_
  refine gf_X3_10 dX3_put_13 rfl (by assumption) (by rfl) ?_
  refine E_iload_n dX3_put_16 (by rfl) ?_
  refine cs_X3_put_17 (by assumption) (Nat.le_of_ble_eq_true rfl) hop ?_
  refine cp_X3_put_20 (by assumption) (Nat.le_of_ble_eq_true rfl) (c_rec_ok hB hc hla r hr) (fun m20 h20 => ?_)
  refine E_iret dX3_put_23 rfl rfl (Nat.zero_le _) (Nat.zero_le _) ?_
  exact ⟨rfl, h20.1, xS86.tr (xS86.tr (xS86.put h.2.2.1 (by decide)) (xS86.put hA.2.1 (by decide))) h20.2⟩
theorem k_remove_no (h : cAt mem C) (hla : g_la01 (k_gm C)) {a1 : Int32} {r : Int32} (hop : Dt G kX0_removeLanding [.ref 1, .int a1] (gPut mem 10 (k_gm C)) (some (.int r)) (gPut mem 10 (k_gm C))) (hr : r.toInt < 0) : Pt G kX3_remove [.ref 0, .int a1] mem (some (.int r)) (cDone mem (cAh C)) := by
  have hA := cAt_ah h (k_gm C)
  have a0 := h.1
  have g0 := h.2.1.1
  have g1 := h.2.2.1.1
  have b0 := hA.1
  have b1 := hA.2.1.1
  refine Ct_of (by decide) (Nat.le_of_ble_eq_true rfl) ?_
  refine E_aload_n dX3_remove_0 (by rfl) ?_
  refine gf_X3_16 dX3_remove_1 rfl (by assumption) (by rfl) ?_
  refine E_aload_n dX3_remove_4 (by rfl) ?_
  refine gf_X3_10 dX3_remove_5 rfl (by assumption) (by rfl) ?_
  refine cs_X3_remove_8 (by assumption) (Nat.le_of_ble_eq_true rfl) (c_toAhead h hla) ?_
  refine E_aload_n dX3_remove_11 (by rfl) ?_
  refine E_aload_n dX3_remove_12 (by rfl) ?_
  refine gf_X3_10 dX3_remove_13 rfl (by assumption) (by rfl) ?_
  refine E_iload_n dX3_remove_16 (by rfl) ?_
  refine cs_X3_remove_17 (by assumption) (Nat.le_of_ble_eq_true rfl) hop ?_
  refine cs_X3_remove_20 (by assumption) (Nat.le_of_ble_eq_true rfl) (c_rec_no hA r hr) ?_
  refine E_iret dX3_remove_23 rfl rfl (Nat.zero_le _) (Nat.zero_le _) ?_
  exact ⟨rfl, hA, xS86.put h.2.2.1 (by decide)⟩
theorem k_remove_ok (h : cAt mem C) (hc : k_c C ≤ 5) (hla : g_la01 (k_gm C)) {a1 : Int32} {r : Int32} (hop : Dt G kX0_removeLanding [.ref 1, .int a1] (gPut mem 10 (k_gm C)) (some (.int r)) (gPut (gPut mem 10 (k_gm C)) 1 T)) (hr : 0 ≤ r.toInt) : Pt G kX3_remove [.ref 0, .int a1] mem (some (.int r)) (cDone mem (cRec (T, C.1, C.2.2))) := by
  have hA := cAt_ah h (k_gm C)
  have hB := cAt_gm hA T
  have a0 := h.1
  have g0 := h.2.1.1
  have g1 := h.2.2.1.1
  have b0 := hA.1
  have b1 := hA.2.1.1
  have d0 := hB.1
  refine Ct_of (by decide) (Nat.le_of_ble_eq_true rfl) ?_
  refine E_aload_n dX3_remove_0 (by rfl) ?_
  refine gf_X3_16 dX3_remove_1 rfl (by assumption) (by rfl) ?_
  refine E_aload_n dX3_remove_4 (by rfl) ?_
  refine gf_X3_10 dX3_remove_5 rfl (by assumption) (by rfl) ?_
  refine cs_X3_remove_8 (by assumption) (Nat.le_of_ble_eq_true rfl) (c_toAhead h hla) ?_
  refine E_aload_n dX3_remove_11 (by rfl) ?_
  refine E_aload_n dX3_remove_12 (by rfl) ?_
  refine gf_X3_10 dX3_remove_13 rfl (by assumption) (by rfl) ?_
  refine E_iload_n dX3_remove_16 (by rfl) ?_
  refine cs_X3_remove_17 (by assumption) (Nat.le_of_ble_eq_true rfl) hop ?_
  refine cp_X3_remove_20 (by assumption) (Nat.le_of_ble_eq_true rfl) (c_rec_ok hB hc hla r hr) (fun m20 h20 => ?_)
  refine E_iret dX3_remove_23 rfl rfl (Nat.zero_le _) (Nat.zero_le _) ?_
  exact ⟨rfl, h20.1, xS86.tr (xS86.tr (xS86.put h.2.2.1 (by decide)) (xS86.put hA.2.1 (by decide))) h20.2⟩
theorem k_join_no (h : cAt mem C) (hla : g_la01 (k_gm C)) {r : Int32} (hop : Dt G kX0_addClimber [.ref 1] (gPut mem 10 (k_gm C)) (some (.int r)) (gPut mem 10 (k_gm C))) (hr : r.toInt < 0) : Pt G kX3_join [.ref 0] mem (some (.int r)) (cDone mem (cAh C)) := by
  have hA := cAt_ah h (k_gm C)
  have a0 := h.1
  have g0 := h.2.1.1
  have g1 := h.2.2.1.1
  have b0 := hA.1
  have b1 := hA.2.1.1
  refine Ct_of (by decide) (Nat.le_of_ble_eq_true rfl) ?_
  refine E_aload_n dX3_join_0 (by rfl) ?_
  refine gf_X3_16 dX3_join_1 rfl (by assumption) (by rfl) ?_
  refine E_aload_n dX3_join_4 (by rfl) ?_
  refine gf_X3_10 dX3_join_5 rfl (by assumption) (by rfl) ?_
  refine cs_X3_join_8 (by assumption) (Nat.le_of_ble_eq_true rfl) (c_toAhead h hla) ?_
  refine E_aload_n dX3_join_11 (by rfl) ?_
  refine E_aload_n dX3_join_12 (by rfl) ?_
  refine gf_X3_10 dX3_join_13 rfl (by assumption) (by rfl) ?_
  refine cs_X3_join_16 (by assumption) (Nat.le_of_ble_eq_true rfl) hop ?_
  refine cs_X3_join_19 (by assumption) (Nat.le_of_ble_eq_true rfl) (c_rec_no hA r hr) ?_
  refine E_iret dX3_join_22 rfl rfl (Nat.zero_le _) (Nat.zero_le _) ?_
  exact ⟨rfl, hA, xS86.put h.2.2.1 (by decide)⟩
theorem k_join_ok (h : cAt mem C) (hc : k_c C ≤ 5) (hla : g_la01 (k_gm C)) {r : Int32} (hop : Dt G kX0_addClimber [.ref 1] (gPut mem 10 (k_gm C)) (some (.int r)) (gPut (gPut mem 10 (k_gm C)) 1 T)) (hr : 0 ≤ r.toInt) : Pt G kX3_join [.ref 0] mem (some (.int r)) (cDone mem (cRec (T, C.1, C.2.2))) := by
  have hA := cAt_ah h (k_gm C)
  have hB := cAt_gm hA T
  have a0 := h.1
  have g0 := h.2.1.1
  have g1 := h.2.2.1.1
  have b0 := hA.1
  have b1 := hA.2.1.1
  have d0 := hB.1
  refine Ct_of (by decide) (Nat.le_of_ble_eq_true rfl) ?_
  refine E_aload_n dX3_join_0 (by rfl) ?_
  refine gf_X3_16 dX3_join_1 rfl (by assumption) (by rfl) ?_
  refine E_aload_n dX3_join_4 (by rfl) ?_
  refine gf_X3_10 dX3_join_5 rfl (by assumption) (by rfl) ?_
  refine cs_X3_join_8 (by assumption) (Nat.le_of_ble_eq_true rfl) (c_toAhead h hla) ?_
  refine E_aload_n dX3_join_11 (by rfl) ?_
  refine E_aload_n dX3_join_12 (by rfl) ?_
  refine gf_X3_10 dX3_join_13 rfl (by assumption) (by rfl) ?_
  refine cs_X3_join_16 (by assumption) (Nat.le_of_ble_eq_true rfl) hop ?_
  refine cp_X3_join_19 (by assumption) (Nat.le_of_ble_eq_true rfl) (c_rec_ok hB hc hla r hr) (fun m19 h19 => ?_)
  refine E_iret dX3_join_22 rfl rfl (Nat.zero_le _) (Nat.zero_le _) ?_
  exact ⟨rfl, h19.1, xS86.tr (xS86.tr (xS86.put h.2.2.1 (by decide)) (xS86.put hA.2.1 (by decide))) h19.2⟩
theorem k_roll_no (h : cAt mem C) (hla : g_la01 (k_gm C)) {a1 : Int32} {r : Int32} (hop : Dt G kX0_makeRoll [.ref 1, .int a1] (gPut mem 10 (k_gm C)) (some (.int r)) (gPut mem 10 (k_gm C))) (hr : r.toInt < 0) : Pt G kX3_roll [.ref 0, .int a1] mem (some (.int r)) (cDone mem (cAh C)) := by
  have hA := cAt_ah h (k_gm C)
  have a0 := h.1
  have g0 := h.2.1.1
  have g1 := h.2.2.1.1
  have b0 := hA.1
  have b1 := hA.2.1.1
  refine Ct_of (by decide) (Nat.le_of_ble_eq_true rfl) ?_
  refine E_aload_n dX3_roll_0 (by rfl) ?_
  refine gf_X3_16 dX3_roll_1 rfl (by assumption) (by rfl) ?_
  refine E_aload_n dX3_roll_4 (by rfl) ?_
  refine gf_X3_10 dX3_roll_5 rfl (by assumption) (by rfl) ?_
  refine cs_X3_roll_8 (by assumption) (Nat.le_of_ble_eq_true rfl) (c_toAhead h hla) ?_
  refine E_aload_n dX3_roll_11 (by rfl) ?_
  refine E_aload_n dX3_roll_12 (by rfl) ?_
  refine gf_X3_10 dX3_roll_13 rfl (by assumption) (by rfl) ?_
  refine E_iload_n dX3_roll_16 (by rfl) ?_
  refine cs_X3_roll_17 (by assumption) (Nat.le_of_ble_eq_true rfl) hop ?_
  refine cs_X3_roll_20 (by assumption) (Nat.le_of_ble_eq_true rfl) (c_rec_no hA r hr) ?_
  refine E_iret dX3_roll_23 rfl rfl (Nat.zero_le _) (Nat.zero_le _) ?_
  exact ⟨rfl, hA, xS86.put h.2.2.1 (by decide)⟩
theorem k_roll_ok (h : cAt mem C) (hc : k_c C ≤ 5) (hla : g_la01 (k_gm C)) {a1 : Int32} {r : Int32} (hop : Dt G kX0_makeRoll [.ref 1, .int a1] (gPut mem 10 (k_gm C)) (some (.int r)) (gPut (gPut mem 10 (k_gm C)) 1 T)) (hr : 0 ≤ r.toInt) : Pt G kX3_roll [.ref 0, .int a1] mem (some (.int r)) (cDone mem (cRec (T, C.1, C.2.2))) := by
  have hA := cAt_ah h (k_gm C)
  have hB := cAt_gm hA T
  have a0 := h.1
  have g0 := h.2.1.1
  have g1 := h.2.2.1.1
  have b0 := hA.1
  have b1 := hA.2.1.1
  have d0 := hB.1
  refine Ct_of (by decide) (Nat.le_of_ble_eq_true rfl) ?_
  refine E_aload_n dX3_roll_0 (by rfl) ?_
  refine gf_X3_16 dX3_roll_1 rfl (by assumption) (by rfl) ?_
  refine E_aload_n dX3_roll_4 (by rfl) ?_
  refine gf_X3_10 dX3_roll_5 rfl (by assumption) (by rfl) ?_
  refine cs_X3_roll_8 (by assumption) (Nat.le_of_ble_eq_true rfl) (c_toAhead h hla) ?_
  refine E_aload_n dX3_roll_11 (by rfl) ?_
  refine E_aload_n dX3_roll_12 (by rfl) ?_
  refine gf_X3_10 dX3_roll_13 rfl (by assumption) (by rfl) ?_
  refine E_iload_n dX3_roll_16 (by rfl) ?_
  refine cs_X3_roll_17 (by assumption) (Nat.le_of_ble_eq_true rfl) hop ?_
  refine cp_X3_roll_20 (by assumption) (Nat.le_of_ble_eq_true rfl) (c_rec_ok hB hc hla r hr) (fun m20 h20 => ?_)
  refine E_iret dX3_roll_23 rfl rfl (Nat.zero_le _) (Nat.zero_le _) ?_
  exact ⟨rfl, h20.1, xS86.tr (xS86.tr (xS86.put h.2.2.1 (by decide)) (xS86.put hA.2.1 (by decide))) h20.2⟩
theorem k_pass_no (h : cAt mem C) (hla : g_la01 (k_gm C)) {r : Int32} (hop : Dt G kX0_makePass [.ref 1] (gPut mem 10 (k_gm C)) (some (.int r)) (gPut mem 10 (k_gm C))) (hr : r.toInt < 0) : Pt G kX3_pass [.ref 0] mem (some (.int r)) (cDone mem (cAh C)) := by
  have hA := cAt_ah h (k_gm C)
  have a0 := h.1
  have g0 := h.2.1.1
  have g1 := h.2.2.1.1
  have b0 := hA.1
  have b1 := hA.2.1.1
  refine Ct_of (by decide) (Nat.le_of_ble_eq_true rfl) ?_
  refine E_aload_n dX3_pass_0 (by rfl) ?_
  refine gf_X3_16 dX3_pass_1 rfl (by assumption) (by rfl) ?_
  refine E_aload_n dX3_pass_4 (by rfl) ?_
  refine gf_X3_10 dX3_pass_5 rfl (by assumption) (by rfl) ?_
  refine cs_X3_pass_8 (by assumption) (Nat.le_of_ble_eq_true rfl) (c_toAhead h hla) ?_
  refine E_aload_n dX3_pass_11 (by rfl) ?_
  refine E_aload_n dX3_pass_12 (by rfl) ?_
  refine gf_X3_10 dX3_pass_13 rfl (by assumption) (by rfl) ?_
  refine cs_X3_pass_16 (by assumption) (Nat.le_of_ble_eq_true rfl) hop ?_
  refine cs_X3_pass_19 (by assumption) (Nat.le_of_ble_eq_true rfl) (c_rec_no hA r hr) ?_
  refine E_iret dX3_pass_22 rfl rfl (Nat.zero_le _) (Nat.zero_le _) ?_
  exact ⟨rfl, hA, xS86.put h.2.2.1 (by decide)⟩
theorem k_pass_ok (h : cAt mem C) (hc : k_c C ≤ 5) (hla : g_la01 (k_gm C)) {r : Int32} (hop : Dt G kX0_makePass [.ref 1] (gPut mem 10 (k_gm C)) (some (.int r)) (gPut (gPut mem 10 (k_gm C)) 1 T)) (hr : 0 ≤ r.toInt) : Pt G kX3_pass [.ref 0] mem (some (.int r)) (cDone mem (cRec (T, C.1, C.2.2))) := by
  have hA := cAt_ah h (k_gm C)
  have hB := cAt_gm hA T
  have a0 := h.1
  have g0 := h.2.1.1
  have g1 := h.2.2.1.1
  have b0 := hA.1
  have b1 := hA.2.1.1
  have d0 := hB.1
  refine Ct_of (by decide) (Nat.le_of_ble_eq_true rfl) ?_
  refine E_aload_n dX3_pass_0 (by rfl) ?_
  refine gf_X3_16 dX3_pass_1 rfl (by assumption) (by rfl) ?_
  refine E_aload_n dX3_pass_4 (by rfl) ?_
  refine gf_X3_10 dX3_pass_5 rfl (by assumption) (by rfl) ?_
  refine cs_X3_pass_8 (by assumption) (Nat.le_of_ble_eq_true rfl) (c_toAhead h hla) ?_
  refine E_aload_n dX3_pass_11 (by rfl) ?_
  refine E_aload_n dX3_pass_12 (by rfl) ?_
  refine gf_X3_10 dX3_pass_13 rfl (by assumption) (by rfl) ?_
  refine cs_X3_pass_16 (by assumption) (Nat.le_of_ble_eq_true rfl) hop ?_
  refine cp_X3_pass_19 (by assumption) (Nat.le_of_ble_eq_true rfl) (c_rec_ok hB hc hla r hr) (fun m19 h19 => ?_)
  refine E_iret dX3_pass_22 rfl rfl (Nat.zero_le _) (Nat.zero_le _) ?_
  exact ⟨rfl, h19.1, xS86.tr (xS86.tr (xS86.put h.2.2.1 (by decide)) (xS86.put hA.2.1 (by decide))) h19.2⟩
/-! what there is -/
theorem k_climber (h : cAt mem C) (hc : (g_cl (k_gm C)).toInt ≤ 6) (x p : Int32) : Dt G kX3_climber [.ref 0, .int x, .int p] mem (some (.int (gPC (k_gm C) x p))) mem := by
  have a0 := h.1
  have g0 := h.2.1.1
  refine Ct_of (by decide) (Nat.le_of_ble_eq_true rfl) ?_
  refine E_aload_n dX3_climber_0 (by rfl) ?_
  refine gf_X3_10 dX3_climber_1 rfl (by assumption) (by rfl) ?_
  refine E_iload_n dX3_climber_4 (by rfl) ?_
  refine E_iload_n dX3_climber_5 (by rfl) ?_
  refine cs_X3_climber_6 (by assumption) (Nat.le_of_ble_eq_true rfl) (c_partOfClimber h.2.1 hc x p) ?_
  refine E_iret dX3_climber_9 rfl rfl (Nat.zero_le _) (Nat.zero_le _) ?_
  exact x_leaf rfl
theorem k_turn (h : cAt mem C) : Dt G kX3_turn [.ref 0] mem (some (.int (if g_isCl (k_gm C) (g_mv (k_gm C)) then g_mv (k_gm C) else -6))) mem := by
  have a0 := h.1
  have g0 := h.2.1.1
  refine Ct_of (by decide) (Nat.le_of_ble_eq_true rfl) ?_
  refine E_aload_n dX3_turn_0 (by rfl) ?_
  refine gf_X3_10 dX3_turn_1 rfl (by assumption) (by rfl) ?_
  refine cs_X3_turn_4 (by assumption) (Nat.le_of_ble_eq_true rfl) (c_hasMover h.2.1) ?_
  refine E_if_eq (tgt := 20) dX3_turn_7 (by decide) (fun q7 => ?_) (fun q7 => ?_)
  · rw [b2i_T0] at q7
    refine E_bipush (v := (-6)) dX3_turn_20 (by decide) ?_
    refine E_iret dX3_turn_22 rfl rfl (Nat.zero_le _) (Nat.zero_le _) ?_
    exact x_leaf (by rw [if_neg q7])
  · rw [b2i_T0] at q7; have q7 := Classical.not_not.mp q7
    refine E_aload_n dX3_turn_10 (by rfl) ?_
    refine gf_X3_10 dX3_turn_11 rfl (by assumption) (by rfl) ?_
    refine gf_X3_84 dX3_turn_14 rfl (by assumption) (by rfl) ?_
    refine E_goto (tgt := 22) dX3_turn_17 (by decide) ?_
    refine E_iret dX3_turn_22 rfl rfl (Nat.zero_le _) (Nat.zero_le _) ?_
    exact x_leaf (by rw [if_pos q7])
theorem k_on (h : cAt mem C) (hc : g_cl (k_gm C) = nI n) (hn : n ≤ 6) (x : Int32) : Dt G kX3_on [.ref 0, .int x] mem (some (.int (if g_below (k_gm C) x then sOn (g_pl (k_gm C)) x n else -1))) mem := by
  have a0 := h.1
  have g0 := h.2.1.1
  refine Ct_of (by decide) (Nat.le_of_ble_eq_true rfl) ?_
  refine E_aload_n dX3_on_0 (by rfl) ?_
  refine gf_X3_10 dX3_on_1 rfl (by assumption) (by rfl) ?_
  refine E_iload_n dX3_on_4 (by rfl) ?_
  refine cs_X3_on_5 (by assumption) (Nat.le_of_ble_eq_true rfl) (c_isBelowTop h.2.1 x) ?_
  refine E_if_eq (tgt := 22) dX3_on_8 (by decide) (fun q8 => ?_) (fun q8 => ?_)
  · rw [b2i_T0] at q8
    refine E_iconst (v := (-1)) dX3_on_22 (by decide) ?_
    refine E_iret dX3_on_23 rfl rfl (Nat.zero_le _) (Nat.zero_le _) ?_
    exact x_leaf (by rw [if_neg q8])
  · rw [b2i_T0] at q8; have q8 := Classical.not_not.mp q8
    refine E_aload_n dX3_on_11 (by rfl) ?_
    refine gf_X3_10 dX3_on_12 rfl (by assumption) (by rfl) ?_
    refine E_iload_n dX3_on_15 (by rfl) ?_
    refine cs_X3_on_16 (by assumption) (Nat.le_of_ble_eq_true rfl) (c_climbersOn h.2.1 hc hn x) ?_
    refine E_goto (tgt := 23) dX3_on_19 (by decide) ?_
    refine E_iret dX3_on_23 rfl rfl (Nat.zero_le _) (Nat.zero_le _) ?_
    exact x_leaf (by rw [if_pos q8])
theorem k_step (h : cAt mem C) (ht : g_top (k_gm C) = nI t) (ht60 : t ≤ 60) (x p : Int32) : Dt G kX3_step [.ref 0, .int x, .int p] mem (some (.int (gPS (k_gm C) t x p))) mem := by
  have a0 := h.1
  have g0 := h.2.1.1
  refine Ct_of (by decide) (Nat.le_of_ble_eq_true rfl) ?_
  refine E_aload_n dX3_step_0 (by rfl) ?_
  refine gf_X3_10 dX3_step_1 rfl (by assumption) (by rfl) ?_
  refine E_iload_n dX3_step_4 (by rfl) ?_
  refine E_iload_n dX3_step_5 (by rfl) ?_
  refine cs_X3_step_6 (by assumption) (Nat.le_of_ble_eq_true rfl) (c_partOfStep h.2.1 ht ht60 x p) ?_
  refine E_iret dX3_step_9 rfl rfl (Nat.zero_le _) (Nat.zero_le _) ?_
  exact x_leaf rfl
theorem k_total (h : cAt mem C) (ht : g_top (k_gm C) = nI t) (ht60 : t ≤ 60) (p : Int32) : Dt G kX3_total [.ref 0, .int p] mem (some (.int (gTo (k_gm C) t p))) mem := by
  have a0 := h.1
  have g0 := h.2.1.1
  refine Ct_of (by decide) (Nat.le_of_ble_eq_true rfl) ?_
  refine E_aload_n dX3_total_0 (by rfl) ?_
  refine gf_X3_10 dX3_total_1 rfl (by assumption) (by rfl) ?_
  refine E_iload_n dX3_total_4 (by rfl) ?_
  refine cs_X3_total_5 (by assumption) (Nat.le_of_ble_eq_true rfl) (c_totalOf h.2.1 ht ht60 p) ?_
  refine E_iret dX3_total_8 rfl rfl (Nat.zero_le _) (Nat.zero_le _) ?_
  exact x_leaf rfl
theorem k_rank (h : cAt mem C) (hc : g_cl (k_gm C) = nI n) (hn : n ≤ 6) (x : Int32) : Dt G kX3_rank [.ref 0, .int x] mem (some (.int (if x.toInt < 0 then -2 else sFst (fun c => (sCn (g_ahd (k_gm C) (nI c)) n).toInt = x.toInt) n 0))) mem := by
  have a0 := h.1
  have g0 := h.2.1.1
  refine Ct_of (by decide) (Nat.le_of_ble_eq_true rfl) ?_
  refine E_iload_n dX3_rank_0 (by rfl) ?_
  refine E_if_ge (tgt := 9) dX3_rank_1 (by decide) (fun q1 => ?_) (fun q1 => ?_)
  · refine E_aload_n dX3_rank_9 (by rfl) ?_
    refine gf_X3_10 dX3_rank_10 rfl (by assumption) (by rfl) ?_
    refine E_iload_n dX3_rank_13 (by rfl) ?_
    refine cs_X3_rank_14 (by assumption) (Nat.le_of_ble_eq_true rfl) (c_climberAtPlace h.2.1 hc hn x) ?_
    refine E_iret dX3_rank_17 rfl rfl (Nat.zero_le _) (Nat.zero_le _) ?_
    exact x_leaf (by rw [if_neg (by omega)])
  · refine E_bipush (v := (-2)) dX3_rank_4 (by decide) ?_
    refine E_goto (tgt := 17) dX3_rank_6 (by decide) ?_
    refine E_iret dX3_rank_17 rfl rfl (Nat.zero_le _) (Nat.zero_le _) ?_
    exact x_leaf (by rw [if_pos (by omega)])
theorem k_rollsToTop (h : cAt mem C) (ht : g_top (k_gm C) = nI t) (ht60 : t ≤ 60) (hc : (g_cl (k_gm C)).toInt ≤ 6) (x : Int32) : Dt G kX3_rollsToTop [.ref 0, .int x] mem (some (.int (if g_isCl (k_gm C) x then sFew (k_gm C) t t 1 (lB (g_pl (k_gm C) x.toNatClampNeg)) else -1))) mem := by
  have a0 := h.1
  have g0 := h.2.1.1
  refine Ct_of (by decide) (Nat.le_of_ble_eq_true rfl) ?_
  refine E_aload_n dX3_rollsToTop_0 (by rfl) ?_
  refine gf_X3_10 dX3_rollsToTop_1 rfl (by assumption) (by rfl) ?_
  refine E_iload_n dX3_rollsToTop_4 (by rfl) ?_
  refine cs_X3_rollsToTop_5 (by assumption) (Nat.le_of_ble_eq_true rfl) (c_isClimber h.2.1 x) ?_
  refine E_if_eq (tgt := 22) dX3_rollsToTop_8 (by decide) (fun q8 => ?_) (fun q8 => ?_)
  · rw [b2i_T0] at q8
    refine E_iconst (v := (-1)) dX3_rollsToTop_22 (by decide) ?_
    refine E_iret dX3_rollsToTop_23 rfl rfl (Nat.zero_le _) (Nat.zero_le _) ?_
    exact x_leaf (by rw [if_neg q8])
  · rw [b2i_T0] at q8; have q8 := Classical.not_not.mp q8
    refine E_aload_n dX3_rollsToTop_11 (by rfl) ?_
    refine gf_X3_10 dX3_rollsToTop_12 rfl (by assumption) (by rfl) ?_
    refine E_iload_n dX3_rollsToTop_15 (by rfl) ?_
    refine cs_X3_rollsToTop_16 (by assumption) (Nat.le_of_ble_eq_true rfl) (c_fewestRollsOf h.2.1 ht ht60 (by omega)) ?_
    refine E_goto (tgt := 23) dX3_rollsToTop_19 (by decide) ?_
    refine E_iret dX3_rollsToTop_23 rfl rfl (Nat.zero_le _) (Nat.zero_le _) ?_
    exact x_leaf (by rw [if_pos q8])
/-! predictions -/
theorem c_rollInTrial (h : cAt mem C) (X : gS) (hla : g_la01 (k_gm C)) (ht : (g_top (k_gm C)).toInt ≤ 60) (hc : g_cl (k_gm C) = nI n) (hn : n ≤ 6) (hm : g_isCl (k_gm C) (g_mv (k_gm C))) (u : Int32) (hu : 1 ≤ u.toInt ∧ u.toInt ≤ 6) : Dt G kX3_rollInTrial [.ref 0, .int u] (gPut mem 19 X) (some (.int (g_pl (gRoll (k_gm C) u n) (g_mv (k_gm C)).toNatClampNeg))) (gPut mem 19 (gRoll (k_gm C) u n)) := by
  have hX := cAt_tr h X
  have hY := cAt_tr h (k_gm C)
  have a0 := hX.1
  have g0 := hX.2.1.1
  have g1 := hX.2.2.2.1.1
  have b0 := hY.1
  have b1 := hY.2.2.2.1.1
  have z := c_copyFrom (G := G) (T := X) h.2.2.2.1 h.2.1 (by decide) hla
  refine Ct_of (by decide) (Nat.le_of_ble_eq_true rfl) ?_
  refine E_aload_n dX3_rollInTrial_0 (by rfl) ?_
  refine gf_X3_19 dX3_rollInTrial_1 rfl (by assumption) (by rfl) ?_
  refine E_aload_n dX3_rollInTrial_4 (by rfl) ?_
  refine gf_X3_10 dX3_rollInTrial_5 rfl (by assumption) (by rfl) ?_
  refine cs_X3_rollInTrial_8 (by assumption) (Nat.le_of_ble_eq_true rfl) z ?_
  refine E_aload_n dX3_rollInTrial_11 (by rfl) ?_
  refine gf_X3_19 dX3_rollInTrial_12 rfl (by assumption) (by rfl) ?_
  refine E_iload_n dX3_rollInTrial_15 (by rfl) ?_
  refine cs_X3_rollInTrial_16 (by assumption) (Nat.le_of_ble_eq_true rfl) (c_makeRoll_ok h.2.2.2.1 ht hc hn hm u hu) ?_
  refine E_iret dX3_rollInTrial_19 rfl rfl (Nat.zero_le _) (Nat.zero_le _) ?_
  exact ⟨rfl, rfl⟩
/-- how much more, the mover's growth less that of the others -/
def sGn (S R : gS) : Nat → Int32
  | 0 => 0
  | c + 1 => sGn S R c + (if (nI c).toInt = (g_mv S).toInt then gPr R (nI c) - gPr S (nI c) else -(gPr R (nI c) - gPr S (nI c)))
theorem gNext_fix (T : gS) : g_le (gNext T) = g_le T ∧ g_la (gNext T) = g_la T ∧ g_pl (gNext T) = g_pl T ∧ g_tp (gNext T) = g_tp T ∧ g_tl (gNext T) = g_tl T ∧ g_lm (gNext T) = g_lm T ∧ g_sl (gNext T) = g_sl T ∧ g_top (gNext T) = g_top T ∧ g_cl (gNext T) = g_cl T ∧ g_ro (gNext T) = g_ro T := by
  have key : ∀ (f : Nat) (T : gS) (x : Int32), g_le (gSkF f T x) = g_le T ∧ g_la (gSkF f T x) = g_la T ∧ g_pl (gSkF f T x) = g_pl T ∧ g_tp (gSkF f T x) = g_tp T ∧ g_tl (gSkF f T x) = g_tl T ∧ g_lm (gSkF f T x) = g_lm T ∧ g_sl (gSkF f T x) = g_sl T ∧ g_top (gSkF f T x) = g_top T ∧ g_cl (gSkF f T x) = g_cl T ∧ g_ro (gSkF f T x) = g_ro T := by
    intro f
    induction f with
    | zero => intro T x; exact ⟨rfl, rfl, rfl, rfl, rfl, rfl, rfl, rfl, rfl, rfl⟩
    | succ f ih =>
      intro T x
      rw [gSkF]
      by_cases h : 0 < (g_rs T x.toNatClampNeg).toInt
      · rw [if_pos h]; exact ih _ _
      · rw [if_neg h]; exact ⟨rfl, rfl, rfl, rfl, rfl, rfl, rfl, rfl, rfl, rfl⟩
  exact key 12 T _
theorem gRoll_fix (T : gS) (u : Int32) (n : Nat) : g_le (gRoll T u n) = g_le T ∧ g_la (gRoll T u n) = g_la T ∧ g_top (gRoll T u n) = g_top T ∧ g_cl (gRoll T u n) = g_cl T ∧ g_ro (gRoll T u n) = g_ro T + 1 := by
  obtain ⟨r1, r2, r3, r4⟩ := gRoll1_fix T u n
  obtain ⟨s1, s2, s3, s4, s5, s6, s7, s8, s9, s10⟩ := gNext_fix (gRoll2 T u n)
  exact ⟨s1.trans r1, s2.trans r2, s8.trans (congrArg (fun z => z.1) r4), s9.trans (congrArg (fun z => z.2.1) r4), s10.trans (congrArg (fun z => z.2.2.2.1) r4)⟩
theorem c_gainOfRoll (h : cAt mem C) (X : gS) (hla : g_la01 (k_gm C)) (ht : (g_top (k_gm C)).toInt ≤ 60) (hc : g_cl (k_gm C) = nI n) (hn : n ≤ 6) (hm : g_isCl (k_gm C) (g_mv (k_gm C))) (u : Int32) (hu : 1 ≤ u.toInt ∧ u.toInt ≤ 6) : Dt G kX3_gainOfRoll [.ref 0, .int u] (gPut mem 19 X) (some (.int (sGn (k_gm C) (gRoll (k_gm C) u n) n))) (gPut mem 19 (gRoll (k_gm C) u n)) := by
  have hX := cAt_tr h X
  have hY := cAt_tr h (gRoll (k_gm C) u n)
  have a0 := hX.1
  have b0 := hY.1
  have b1 := hY.2.2.2.1.1
  have b2 : (gPut mem 19 (gRoll (k_gm C) u n))[1]? = some (g_o 1 (k_gm C)) := hY.2.1.1
  have hc' : (g_cl (k_gm C)).toInt = (n : Int) := by rw [hc]; exact nI_toInt (by omega)
  have hcr : (g_cl (gRoll (k_gm C) u n)).toInt ≤ 6 := by rw [(gRoll_fix (k_gm C) u n).2.2.2.1]; omega
  refine Ct_of (by decide) (Nat.le_of_ble_eq_true rfl) ?_
  have loop : ∀ di i : Nat, n < i + di → i ≤ n → E G kX3_gainOfRoll (x_R (some (.int (sGn (k_gm C) (gRoll (k_gm C) u n) n))) (gPut mem 19 (gRoll (k_gm C) u n))) 0 0 ((gPut mem 19 (gRoll (k_gm C) u n))) 10 (x_L [(0, .ref 0), (2, .int (sGn (k_gm C) (gRoll (k_gm C) u n) i)), (3, .int (nI i))]) [] := by
    intro di
    induction di with
    | zero => intro i hi1 hi2; exact absurd hi1 (by omega)
    | succ di ihi =>
      intro i hi1 hi2
      have ei : (nI i).toInt = (i : Int) := nI_toInt (by omega)
      have eci : (nI i).toNatClampNeg = i := nI_clamp (by omega)
      refine E_iload_n dX3_gainOfRoll_10 (by rfl) ?_
      refine E_aload_n dX3_gainOfRoll_11 (by rfl) ?_
      refine gf_X3_10 dX3_gainOfRoll_12 rfl (by assumption) (by rfl) ?_
      refine gf_X3_150 dX3_gainOfRoll_15 rfl (by assumption) (by rfl) ?_
      refine E_icmp_ge (n := _) rfl (tgt := 68) dX3_gainOfRoll_18 (by decide) (fun q18 => ?_) (fun q18 => ?_)
      · refine E_iload_n dX3_gainOfRoll_68 (by rfl) ?_
        refine E_iret dX3_gainOfRoll_69 rfl rfl (Nat.zero_le _) (Nat.zero_le _) ?_
        exact ⟨by rw [show i = n by omega], rfl⟩
      · refine E_aload_n dX3_gainOfRoll_21 (by rfl) ?_
        refine gf_X3_19 dX3_gainOfRoll_22 rfl (by assumption) (by rfl) ?_
        refine E_iload_n dX3_gainOfRoll_25 (by rfl) ?_
        refine cs_X3_gainOfRoll_26 (by assumption) (Nat.le_of_ble_eq_true rfl) (c_progressOf hY.2.2.2.1 hcr _) ?_
        refine E_aload_n dX3_gainOfRoll_29 (by rfl) ?_
        refine gf_X3_10 dX3_gainOfRoll_30 rfl (by assumption) (by rfl) ?_
        refine E_iload_n dX3_gainOfRoll_33 (by rfl) ?_
        refine cs_X3_gainOfRoll_34 (by assumption) (Nat.le_of_ble_eq_true rfl) (c_progressOf (S := k_gm C) hY.2.1 (by omega) _) ?_
        refine E_isub dX3_gainOfRoll_37 ?_
        refine E_istore dX3_gainOfRoll_38 (Nat.le_of_ble_eq_true rfl) (by rfl) ?_
        refine E_iload_n dX3_gainOfRoll_40 (by rfl) ?_
        refine E_iload_n dX3_gainOfRoll_41 (by rfl) ?_
        refine E_aload_n dX3_gainOfRoll_42 (by rfl) ?_
        refine gf_X3_10 dX3_gainOfRoll_43 rfl (by assumption) (by rfl) ?_
        refine gf_X3_84 dX3_gainOfRoll_46 rfl (by assumption) (by rfl) ?_
        refine E_icmp_ne (n := _) rfl (tgt := 57) dX3_gainOfRoll_49 (by decide) (fun q49 => ?_) (fun q49 => ?_)
        · refine E_iload dX3_gainOfRoll_57 (by rfl) ?_
          refine E_ineg dX3_gainOfRoll_59 ?_
          refine E_iadd dX3_gainOfRoll_60 ?_
          refine E_istore_n dX3_gainOfRoll_61 (Nat.le_of_ble_eq_true rfl) (by rfl) ?_
          refine E_iinc (d := 1) dX3_gainOfRoll_62 (by rfl) (by decide) (Nat.le_of_ble_eq_true rfl) (by rfl) ?_
          refine E_goto (tgt := 10) dX3_gainOfRoll_65 (by decide) ?_
          exact E_loc [(0, .ref 0), (2, .int (sGn (k_gm C) (gRoll (k_gm C) u n) (i + 1))), (3, .int (nI (i + 1)))] ⟨rfl, x_i (by simp only [sGn]; first | rw [if_pos q49] | rw [if_neg q49]), x_i (by first | exact nI_1 _ | decide), trivial⟩ (ihi (i + 1) (by omega) (by omega))
        · refine E_iload dX3_gainOfRoll_52 (by rfl) ?_
          refine E_goto (tgt := 60) dX3_gainOfRoll_54 (by decide) ?_
          refine E_iadd dX3_gainOfRoll_60 ?_
          refine E_istore_n dX3_gainOfRoll_61 (Nat.le_of_ble_eq_true rfl) (by rfl) ?_
          refine E_iinc (d := 1) dX3_gainOfRoll_62 (by rfl) (by decide) (Nat.le_of_ble_eq_true rfl) (by rfl) ?_
          refine E_goto (tgt := 10) dX3_gainOfRoll_65 (by decide) ?_
          exact E_loc [(0, .ref 0), (2, .int (sGn (k_gm C) (gRoll (k_gm C) u n) (i + 1))), (3, .int (nI (i + 1)))] ⟨rfl, x_i (by simp only [sGn]; first | rw [if_pos q49] | rw [if_neg q49]), x_i (by first | exact nI_1 _ | decide), trivial⟩ (ihi (i + 1) (by omega) (by omega))
  refine E_aload_n dX3_gainOfRoll_0 (by rfl) ?_
  refine E_iload_n dX3_gainOfRoll_1 (by rfl) ?_
  refine cs_X3_gainOfRoll_2 (by assumption) (Nat.le_of_ble_eq_true rfl) (c_rollInTrial h X hla ht hc hn hm u hu) ?_
  refine E_pop dX3_gainOfRoll_5 rfl ?_
  refine E_iconst (v := 0) dX3_gainOfRoll_6 (by decide) ?_
  refine E_istore_n dX3_gainOfRoll_7 (Nat.le_of_ble_eq_true rfl) (by rfl) ?_
  refine E_iconst (v := 0) dX3_gainOfRoll_8 (by decide) ?_
  refine E_istore_n dX3_gainOfRoll_9 (Nat.le_of_ble_eq_true rfl) (by rfl) ?_
  exact E_loc [(0, .ref 0), (2, .int (sGn (k_gm C) (gRoll (k_gm C) u n) 0)), (3, .int (nI 0))] ⟨rfl, x_i (by rfl), x_i (by first | rfl | decide), trivial⟩ (loop (n + 1) 0 (by omega) (by omega))
def gIf (S : gS) (n : Nat) (u p : Int32) : Int32 :=
  if p = 0 then g_pl (gRoll S u n) (g_mv S).toNatClampNeg else if p = 1 then sSm (g_tl (gRoll S u n)) 6 - sSm (g_tl S) 6 else if p = 2 then sSm (g_tp (gRoll S u n)) 6 - sSm (g_tp S) 6 else if p = 3 then sSm (g_sl (gRoll S u n)) 6 - sSm (g_sl S) 6 else g_mv (gRoll S u n)
theorem k_ifRolled_no1 (u p : Int32) (hu : ¬ ((1 ≤ u.toInt ∧ u.toInt ≤ 6) ∧ 0 ≤ p.toInt ∧ p.toInt ≤ 4)) : Dt G kX3_ifRolled [.ref 0, .int u, .int p] mem (some (.int (-2))) mem := by
  refine Ct_of (by decide) (Nat.le_of_ble_eq_true rfl) ?_
  refine E_iload_n dX3_ifRolled_0 (by rfl) ?_
  refine cs_X3_ifRolled_1 (Nat.le_of_ble_eq_true rfl) (c_isRoll u) ?_
  refine E_if_eq (tgt := 16) dX3_ifRolled_4 (by decide) (fun q4 => ?_) (fun q4 => ?_)
  · rw [b2i_T0] at q4
    refine E_bipush (v := (-2)) dX3_ifRolled_16 (by decide) ?_
    refine E_iret dX3_ifRolled_18 rfl rfl (Nat.zero_le _) (Nat.zero_le _) ?_
    exact x_leaf rfl
  · rw [b2i_T0] at q4; have q4 := Classical.not_not.mp q4
    refine E_iload_n dX3_ifRolled_7 (by rfl) ?_
    refine E_if_lt (tgt := 16) dX3_ifRolled_8 (by decide) (fun q8 => ?_) (fun q8 => ?_)
    · refine E_bipush (v := (-2)) dX3_ifRolled_16 (by decide) ?_
      refine E_iret dX3_ifRolled_18 rfl rfl (Nat.zero_le _) (Nat.zero_le _) ?_
      exact x_leaf rfl
    · refine E_iload_n dX3_ifRolled_11 (by rfl) ?_
      refine E_iconst (v := 4) dX3_ifRolled_12 (by decide) ?_
      refine E_icmp_le (n := 4) (by decide) (tgt := 19) dX3_ifRolled_13 (by decide) (fun q13 => ?_) (fun q13 => ?_)
      · exact absurd ⟨q4, by omega, by omega⟩ hu
      · refine E_bipush (v := (-2)) dX3_ifRolled_16 (by decide) ?_
        refine E_iret dX3_ifRolled_18 rfl rfl (Nat.zero_le _) (Nat.zero_le _) ?_
        exact x_leaf rfl
theorem k_ifRolled_no2 (h : cAt mem C) (u p : Int32) (hu : (1 ≤ u.toInt ∧ u.toInt ≤ 6) ∧ 0 ≤ p.toInt ∧ p.toInt ≤ 4) (hm : ¬ g_isCl (k_gm C) (g_mv (k_gm C))) : Dt G kX3_ifRolled [.ref 0, .int u, .int p] mem (some (.int (-3))) mem := by
  have a0 := h.1
  have g0 := h.2.1.1
  refine Ct_of (by decide) (Nat.le_of_ble_eq_true rfl) ?_
  refine E_iload_n dX3_ifRolled_0 (by rfl) ?_
  refine cs_X3_ifRolled_1 (Nat.le_of_ble_eq_true rfl) (c_isRoll u) ?_
  refine E_if_eq (tgt := 16) dX3_ifRolled_4 (by decide) (fun q4 => ?_) (fun q4 => ?_)
  · rw [b2i_T0] at q4; exact absurd hu.1 q4
  · refine E_iload_n dX3_ifRolled_7 (by rfl) ?_
    refine E_if_lt (tgt := 16) dX3_ifRolled_8 (by decide) (fun q8 => ?_) (fun q8 => ?_)
    · exact absurd hu (by omega)
    · refine E_iload_n dX3_ifRolled_11 (by rfl) ?_
      refine E_iconst (v := 4) dX3_ifRolled_12 (by decide) ?_
      refine E_icmp_le (n := 4) (by decide) (tgt := 19) dX3_ifRolled_13 (by decide) (fun q13 => ?_) (fun q13 => ?_)
      · refine E_aload_n dX3_ifRolled_19 (by rfl) ?_
        refine gf_X3_10 dX3_ifRolled_20 rfl (by assumption) (by rfl) ?_
        refine cs_X3_ifRolled_23 (by assumption) (Nat.le_of_ble_eq_true rfl) (c_hasMover h.2.1) ?_
        refine E_if_ne (tgt := 32) dX3_ifRolled_26 (by decide) (fun q26 => ?_) (fun q26 => ?_)
        · rw [b2i_T0] at q26; exact absurd hm q26
        · refine E_bipush (v := (-3)) dX3_ifRolled_29 (by decide) ?_
          refine E_iret dX3_ifRolled_31 rfl rfl (Nat.zero_le _) (Nat.zero_le _) ?_
          exact x_leaf rfl
      · exact absurd hu (by omega)
theorem k_ifRolled_ok (h : cAt mem C) (hla : g_la01 (k_gm C)) (ht : (g_top (k_gm C)).toInt ≤ 60) (hc : g_cl (k_gm C) = nI n) (hn : n ≤ 6) (hm : g_isCl (k_gm C) (g_mv (k_gm C))) (u p : Int32) (hu : (1 ≤ u.toInt ∧ u.toInt ≤ 6) ∧ 0 ≤ p.toInt ∧ p.toInt ≤ 4) : Dt G kX3_ifRolled [.ref 0, .int u, .int p] mem (some (.int (gIf (k_gm C) n u p))) (gPut mem 19 (gRoll (k_gm C) u n)) := by
  have a0 := h.1
  have g0 := h.2.1.1
  have hY := cAt_tr h (gRoll (k_gm C) u n)
  have b0 := hY.1
  have b1 := hY.2.2.2.1.1
  have b2 := hY.2.1.1
  have z := c_rollInTrial (G := G) h (k_tr C) hla ht hc hn hm u hu.1
  rw [gPut_self h.2.2.2.1] at z
  refine Ct_of (by decide) (Nat.le_of_ble_eq_true rfl) ?_
  unfold gIf
  refine E_iload_n dX3_ifRolled_0 (by rfl) ?_
  refine cs_X3_ifRolled_1 (Nat.le_of_ble_eq_true rfl) (c_isRoll u) ?_
  refine E_if_eq (tgt := 16) dX3_ifRolled_4 (by decide) (fun q4 => ?_) (fun q4 => ?_)
  · rw [b2i_T0] at q4; exact absurd hu.1 q4
  · refine E_iload_n dX3_ifRolled_7 (by rfl) ?_
    refine E_if_lt (tgt := 16) dX3_ifRolled_8 (by decide) (fun q8 => ?_) (fun q8 => ?_)
    · exact absurd hu (by omega)
    · refine E_iload_n dX3_ifRolled_11 (by rfl) ?_
      refine E_iconst (v := 4) dX3_ifRolled_12 (by decide) ?_
      refine E_icmp_le (n := 4) (by decide) (tgt := 19) dX3_ifRolled_13 (by decide) (fun q13 => ?_) (fun q13 => ?_)
      · refine E_aload_n dX3_ifRolled_19 (by rfl) ?_
        refine gf_X3_10 dX3_ifRolled_20 rfl (by assumption) (by rfl) ?_
        refine cs_X3_ifRolled_23 (by assumption) (Nat.le_of_ble_eq_true rfl) (c_hasMover h.2.1) ?_
        refine E_if_ne (tgt := 32) dX3_ifRolled_26 (by decide) (fun q26 => ?_) (fun q26 => ?_)
        · refine E_aload_n dX3_ifRolled_32 (by rfl) ?_
          refine E_iload_n dX3_ifRolled_33 (by rfl) ?_
          refine cs_X3_ifRolled_34 (by assumption) (Nat.le_of_ble_eq_true rfl) z ?_
          refine E_istore_n dX3_ifRolled_37 (Nat.le_of_ble_eq_true rfl) (by rfl) ?_
          refine E_iload_n dX3_ifRolled_38 (by rfl) ?_
          by_cases c39_0 : p = 0
          · rw [c39_0]
            refine E_tableIn (off := 29) (tgt := 68) dX3_ifRolled_39 (by decide) (by decide) (by decide) (by decide) ?_
            refine E_iload_n dX3_ifRolled_68 (by rfl) ?_
            refine E_iret dX3_ifRolled_69 rfl rfl (Nat.zero_le _) (Nat.zero_le _) ?_
            exact ⟨by rw [if_pos rfl], rfl⟩
          by_cases c39_1 : p = 1
          · rw [c39_1]
            refine E_tableIn (off := 31) (tgt := 70) dX3_ifRolled_39 (by decide) (by decide) (by decide) (by decide) ?_
            refine E_aload_n dX3_ifRolled_70 (by rfl) ?_
            refine gf_X3_19 dX3_ifRolled_71 rfl (by assumption) (by rfl) ?_
            refine cs_X3_ifRolled_74 (by assumption) (Nat.le_of_ble_eq_true rfl) (c_liftsOfAll hY.2.2.2.1) ?_
            refine E_aload_n dX3_ifRolled_77 (by rfl) ?_
            refine gf_X3_10 dX3_ifRolled_78 rfl (by assumption) (by rfl) ?_
            refine cs_X3_ifRolled_81 (by assumption) (Nat.le_of_ble_eq_true rfl) (c_liftsOfAll hY.2.1) ?_
            refine E_isub dX3_ifRolled_84 ?_
            refine E_iret dX3_ifRolled_85 rfl rfl (Nat.zero_le _) (Nat.zero_le _) ?_
            exact ⟨by rw [if_neg (by decide), if_pos rfl], rfl⟩
          by_cases c39_2 : p = 2
          · rw [c39_2]
            refine E_tableIn (off := 47) (tgt := 86) dX3_ifRolled_39 (by decide) (by decide) (by decide) (by decide) ?_
            refine E_aload_n dX3_ifRolled_86 (by rfl) ?_
            refine gf_X3_19 dX3_ifRolled_87 rfl (by assumption) (by rfl) ?_
            refine cs_X3_ifRolled_90 (by assumption) (Nat.le_of_ble_eq_true rfl) (c_topsOfAll hY.2.2.2.1) ?_
            refine E_aload_n dX3_ifRolled_93 (by rfl) ?_
            refine gf_X3_10 dX3_ifRolled_94 rfl (by assumption) (by rfl) ?_
            refine cs_X3_ifRolled_97 (by assumption) (Nat.le_of_ble_eq_true rfl) (c_topsOfAll hY.2.1) ?_
            refine E_isub dX3_ifRolled_100 ?_
            refine E_iret dX3_ifRolled_101 rfl rfl (Nat.zero_le _) (Nat.zero_le _) ?_
            exact ⟨by rw [if_neg (by decide), if_neg (by decide), if_pos rfl], rfl⟩
          by_cases c39_3 : p = 3
          · rw [c39_3]
            refine E_tableIn (off := 63) (tgt := 102) dX3_ifRolled_39 (by decide) (by decide) (by decide) (by decide) ?_
            refine E_aload_n dX3_ifRolled_102 (by rfl) ?_
            refine gf_X3_19 dX3_ifRolled_103 rfl (by assumption) (by rfl) ?_
            refine cs_X3_ifRolled_106 (by assumption) (Nat.le_of_ble_eq_true rfl) (c_slipsOfAll hY.2.2.2.1) ?_
            refine E_aload_n dX3_ifRolled_109 (by rfl) ?_
            refine gf_X3_10 dX3_ifRolled_110 rfl (by assumption) (by rfl) ?_
            refine cs_X3_ifRolled_113 (by assumption) (Nat.le_of_ble_eq_true rfl) (c_slipsOfAll hY.2.1) ?_
            refine E_isub dX3_ifRolled_116 ?_
            refine E_iret dX3_ifRolled_117 rfl rfl (Nat.zero_le _) (Nat.zero_le _) ?_
            exact ⟨by rw [if_neg (by decide), if_neg (by decide), if_neg (by decide), if_pos rfl], rfl⟩
          have n39_0 : (p).toInt ≠ 0 := fun e => c39_0 (Int32.toInt_inj.mp (e.trans (by decide)))
          have n39_1 : (p).toInt ≠ 1 := fun e => c39_1 (Int32.toInt_inj.mp (e.trans (by decide)))
          have n39_2 : (p).toInt ≠ 2 := fun e => c39_2 (Int32.toInt_inj.mp (e.trans (by decide)))
          have n39_3 : (p).toInt ≠ 3 := fun e => c39_3 (Int32.toInt_inj.mp (e.trans (by decide)))
          refine E_tableOut (tgt := 118) dX3_ifRolled_39 (by omega) (by decide) ?_
          refine E_aload_n dX3_ifRolled_118 (by rfl) ?_
          refine gf_X3_19 dX3_ifRolled_119 rfl (by assumption) (by rfl) ?_
          refine gf_X3_84 dX3_ifRolled_122 rfl (by assumption) (by rfl) ?_
          refine E_iret dX3_ifRolled_125 rfl rfl (Nat.zero_le _) (Nat.zero_le _) ?_
          exact ⟨by rw [if_neg c39_0, if_neg c39_1, if_neg c39_2, if_neg c39_3], rfl⟩
        · rw [b2i_T0] at q26; exact absurd hm q26
      · exact absurd hu (by omega)
/-- the best of the first k + 1 rolls, and its gain -/
def sBe (a : Nat → Int32) : Nat → Int32 × Int32
  | 0 => (1, a 1)
  | k + 1 => if (sBe a k).2.toInt < (a (k + 2)).toInt then (nI (k + 2), a (k + 2)) else sBe a k
theorem k_bestRoll_no (h : cAt mem C) (hm : ¬ g_isCl (k_gm C) (g_mv (k_gm C))) : Dt G kX3_bestRoll [.ref 0] mem (some (.int (-6))) mem := by
  have a0 := h.1
  have g0 := h.2.1.1
  refine Ct_of (by decide) (Nat.le_of_ble_eq_true rfl) ?_
  refine E_aload_n dX3_bestRoll_0 (by rfl) ?_
  refine gf_X3_10 dX3_bestRoll_1 rfl (by assumption) (by rfl) ?_
  refine cs_X3_bestRoll_4 (by assumption) (Nat.le_of_ble_eq_true rfl) (c_hasMover h.2.1) ?_
  refine E_if_ne (tgt := 13) dX3_bestRoll_7 (by decide) (fun q7 => ?_) (fun q7 => ?_)
  · rw [b2i_T0] at q7; exact absurd hm q7
  · refine E_bipush (v := (-6)) dX3_bestRoll_10 (by decide) ?_
    refine E_iret dX3_bestRoll_12 rfl rfl (Nat.zero_le _) (Nat.zero_le _) ?_
    exact x_leaf rfl
theorem k_bestRoll_ok (h : cAt mem C) (hla : g_la01 (k_gm C)) (ht : (g_top (k_gm C)).toInt ≤ 60) (hc : g_cl (k_gm C) = nI n) (hn : n ≤ 6) (hm : g_isCl (k_gm C) (g_mv (k_gm C))) : Dt G kX3_bestRoll [.ref 0] mem (some (.int (sBe (fun k => sGn (k_gm C) (gRoll (k_gm C) (nI k) n) n) 5).1)) (gPut mem 19 (gRoll (k_gm C) (nI 6) n)) := by
  have a0 := h.1
  have g0 := h.2.1.1
  have z := c_gainOfRoll (G := G) h (k_tr C) hla ht hc hn hm 1 (by decide)
  rw [gPut_self h.2.2.2.1] at z
  refine Ct_of (by decide) (Nat.le_of_ble_eq_true rfl) ?_
  have loop : ∀ di i : Nat, 7 < i + di → i ≤ 7 → (2 ≤ i) → E G kX3_bestRoll (x_R (some (.int (sBe (fun k => sGn (k_gm C) (gRoll (k_gm C) (nI k) n) n) 5).1)) (gPut mem 19 (gRoll (k_gm C) (nI 6) n))) 0 0 ((gPut mem 19 (gRoll (k_gm C) (nI (i - 1)) n))) 23 (x_L [(0, .ref 0), (1, .int (sBe (fun k => sGn (k_gm C) (gRoll (k_gm C) (nI k) n) n) (i - 2)).1), (2, .int (sBe (fun k => sGn (k_gm C) (gRoll (k_gm C) (nI k) n) n) (i - 2)).2), (3, .int (nI i))]) [] := by
    intro di
    induction di with
    | zero => intro i hi1 hi2 _; exact absurd hi1 (by omega)
    | succ di ihi =>
      intro i hi1 hi2 hinv
      have ei : (nI i).toInt = (i : Int) := nI_toInt (by omega)
      have eci : (nI i).toNatClampNeg = i := nI_clamp (by omega)
      have b0 := (cAt_tr h (gRoll (k_gm C) (nI (i - 1)) n)).1
      refine E_iload_n dX3_bestRoll_23 (by rfl) ?_
      refine E_bipush (v := 6) dX3_bestRoll_24 (by decide) ?_
      refine E_icmp_gt (n := 6) (by decide) (tgt := 53) dX3_bestRoll_26 (by decide) (fun q26 => ?_) (fun q26 => ?_)
      · refine E_iload_n dX3_bestRoll_53 (by rfl) ?_
        refine E_iret dX3_bestRoll_54 rfl rfl (Nat.zero_le _) (Nat.zero_le _) ?_
        exact ⟨by rw [show i - 2 = 5 by omega], by rw [show i - 1 = 6 by omega]⟩
      · refine E_aload_n dX3_bestRoll_29 (by rfl) ?_
        refine E_iload_n dX3_bestRoll_30 (by rfl) ?_
        refine cs_X3_bestRoll_31 (by assumption) (Nat.le_of_ble_eq_true rfl) (c_gainOfRoll h _ hla ht hc hn hm (nI i) (by omega)) ?_
        refine E_istore dX3_bestRoll_34 (Nat.le_of_ble_eq_true rfl) (by rfl) ?_
        refine E_iload dX3_bestRoll_36 (by rfl) ?_
        refine E_iload_n dX3_bestRoll_38 (by rfl) ?_
        refine E_icmp_le (n := _) rfl (tgt := 47) dX3_bestRoll_39 (by decide) (fun q39 => ?_) (fun q39 => ?_)
        · refine E_iinc (d := 1) dX3_bestRoll_47 (by rfl) (by decide) (Nat.le_of_ble_eq_true rfl) (by rfl) ?_
          refine E_goto (tgt := 23) dX3_bestRoll_50 (by decide) ?_
          refine E_mem (mem' := gPut mem 19 (gRoll (k_gm C) (nI (i + 1 - 1)) n)) rfl ?_
          exact E_loc [(0, .ref 0), (1, .int (sBe (fun k => sGn (k_gm C) (gRoll (k_gm C) (nI k) n) n) ((i + 1) - 2)).1), (2, .int (sBe (fun k => sGn (k_gm C) (gRoll (k_gm C) (nI k) n) n) ((i + 1) - 2)).2), (3, .int (nI (i + 1)))] ⟨rfl, x_i (by rw [show i + 1 - 2 = (i - 2) + 1 by omega, sBe, show i - 2 + 2 = i by omega]; first | rw [if_neg (show ¬ _ from fun z => absurd z (by omega))] | rw [if_pos (by omega)]), x_i (by rw [show i + 1 - 2 = (i - 2) + 1 by omega, sBe, show i - 2 + 2 = i by omega]; first | rw [if_neg (show ¬ _ from fun z => absurd z (by omega))] | rw [if_pos (by omega)]), x_i (by first | exact nI_1 _ | decide), trivial⟩ (ihi (i + 1) (by omega) (by omega) (by omega))
        · refine E_iload_n dX3_bestRoll_42 (by rfl) ?_
          refine E_istore_n dX3_bestRoll_43 (Nat.le_of_ble_eq_true rfl) (by rfl) ?_
          refine E_iload dX3_bestRoll_44 (by rfl) ?_
          refine E_istore_n dX3_bestRoll_46 (Nat.le_of_ble_eq_true rfl) (by rfl) ?_
          refine E_iinc (d := 1) dX3_bestRoll_47 (by rfl) (by decide) (Nat.le_of_ble_eq_true rfl) (by rfl) ?_
          refine E_goto (tgt := 23) dX3_bestRoll_50 (by decide) ?_
          refine E_mem (mem' := gPut mem 19 (gRoll (k_gm C) (nI (i + 1 - 1)) n)) rfl ?_
          exact E_loc [(0, .ref 0), (1, .int (sBe (fun k => sGn (k_gm C) (gRoll (k_gm C) (nI k) n) n) ((i + 1) - 2)).1), (2, .int (sBe (fun k => sGn (k_gm C) (gRoll (k_gm C) (nI k) n) n) ((i + 1) - 2)).2), (3, .int (nI (i + 1)))] ⟨rfl, x_i (by rw [show i + 1 - 2 = (i - 2) + 1 by omega, sBe, show i - 2 + 2 = i by omega]; first | rw [if_neg (show ¬ _ from fun z => absurd z (by omega))] | rw [if_pos (by omega)]), x_i (by rw [show i + 1 - 2 = (i - 2) + 1 by omega, sBe, show i - 2 + 2 = i by omega]; first | rw [if_neg (show ¬ _ from fun z => absurd z (by omega))] | rw [if_pos (by omega)]), x_i (by first | exact nI_1 _ | decide), trivial⟩ (ihi (i + 1) (by omega) (by omega) (by omega))
  refine E_aload_n dX3_bestRoll_0 (by rfl) ?_
  refine gf_X3_10 dX3_bestRoll_1 rfl (by assumption) (by rfl) ?_
  refine cs_X3_bestRoll_4 (by assumption) (Nat.le_of_ble_eq_true rfl) (c_hasMover h.2.1) ?_
  refine E_if_ne (tgt := 13) dX3_bestRoll_7 (by decide) (fun q7 => ?_) (fun q7 => ?_)
  · refine E_iconst (v := 1) dX3_bestRoll_13 (by decide) ?_
    refine E_istore_n dX3_bestRoll_14 (Nat.le_of_ble_eq_true rfl) (by rfl) ?_
    refine E_aload_n dX3_bestRoll_15 (by rfl) ?_
    refine E_iconst (v := 1) dX3_bestRoll_16 (by decide) ?_
    refine cs_X3_bestRoll_17 (by assumption) (Nat.le_of_ble_eq_true rfl) z ?_
    refine E_istore_n dX3_bestRoll_20 (Nat.le_of_ble_eq_true rfl) (by rfl) ?_
    refine E_iconst (v := 2) dX3_bestRoll_21 (by decide) ?_
    refine E_istore_n dX3_bestRoll_22 (Nat.le_of_ble_eq_true rfl) (by rfl) ?_
    exact E_loc [(0, .ref 0), (1, .int (sBe (fun k => sGn (k_gm C) (gRoll (k_gm C) (nI k) n) n) (2 - 2)).1), (2, .int (sBe (fun k => sGn (k_gm C) (gRoll (k_gm C) (nI k) n) n) (2 - 2)).2), (3, .int (nI 2))] ⟨rfl, x_i (by rfl), x_i (by rfl), x_i (by decide), trivial⟩ (loop (7 + 1) 2 (by omega) (by omega) (Nat.le_refl _))
  · rw [b2i_T0] at q7; exact absurd hm q7
/-- the bits of the rolls 1 .. k that lift nobody -/
def sQu (p : Nat → Prop) [DecidablePred p] : Nat → Int32
  | 0 => 0
  | k + 1 => if p (k + 1) then sQu p k ||| (1 <<< (nI (k + 1) &&& 31)) else sQu p k
abbrev g_qt (S : gS) (n k : Nat) : Prop := sNo (fun c => g_psd S c (nI k)) n = true
theorem k_quietRolls_no (h : cAt mem C) (hm : ¬ g_isCl (k_gm C) (g_mv (k_gm C))) : Dt G kX3_quietRolls [.ref 0] mem (some (.int (-6))) mem := by
  have a0 := h.1
  have g0 := h.2.1.1
  refine Ct_of (by decide) (Nat.le_of_ble_eq_true rfl) ?_
  refine E_aload_n dX3_quietRolls_0 (by rfl) ?_
  refine gf_X3_10 dX3_quietRolls_1 rfl (by assumption) (by rfl) ?_
  refine cs_X3_quietRolls_4 (by assumption) (Nat.le_of_ble_eq_true rfl) (c_hasMover h.2.1) ?_
  refine E_if_ne (tgt := 13) dX3_quietRolls_7 (by decide) (fun q7 => ?_) (fun q7 => ?_)
  · rw [b2i_T0] at q7; exact absurd hm q7
  · refine E_bipush (v := (-6)) dX3_quietRolls_10 (by decide) ?_
    refine E_iret dX3_quietRolls_12 rfl rfl (Nat.zero_le _) (Nat.zero_le _) ?_
    exact x_leaf rfl
theorem k_quietRolls_ok (h : cAt mem C) (ht : (g_top (k_gm C)).toInt ≤ 60) (hc : g_cl (k_gm C) = nI n) (hn : n ≤ 6) (hm : g_isCl (k_gm C) (g_mv (k_gm C))) : Dt G kX3_quietRolls [.ref 0] mem (some (.int (sQu (g_qt (k_gm C) n) 6))) mem := by
  have a0 := h.1
  have g0 := h.2.1.1
  have hc' : (g_cl (k_gm C)).toInt = (n : Int) := by rw [hc]; exact nI_toInt (by omega)
  have hm6 : 0 ≤ (g_mv (k_gm C)).toInt ∧ (g_mv (k_gm C)).toInt < 6 := by omega
  refine Ct_of (by decide) (Nat.le_of_ble_eq_true rfl) ?_
  have loop : ∀ di i : Nat, 7 < i + di → i ≤ 7 → (1 ≤ i) → E G kX3_quietRolls (x_R (some (.int (sQu (g_qt (k_gm C) n) 6))) mem) 0 0 (mem) 17 (x_L [(0, .ref 0), (1, .int (sQu (g_qt (k_gm C) n) (i - 1))), (2, .int (nI i))]) [] := by
    intro di
    induction di with
    | zero => intro i hi1 hi2 _; exact absurd hi1 (by omega)
    | succ di ihi =>
      intro i hi1 hi2 hinv
      have ei : (nI i).toInt = (i : Int) := nI_toInt (by omega)
      have eci : (nI i).toNatClampNeg = i := nI_clamp (by omega)
      refine E_iload_n dX3_quietRolls_17 (by rfl) ?_
      refine E_bipush (v := 6) dX3_quietRolls_18 (by decide) ?_
      refine E_icmp_gt (n := 6) (by decide) (tgt := 46) dX3_quietRolls_20 (by decide) (fun q20 => ?_) (fun q20 => ?_)
      · refine E_iload_n dX3_quietRolls_46 (by rfl) ?_
        refine E_iret dX3_quietRolls_47 rfl rfl (Nat.zero_le _) (Nat.zero_le _) ?_
        exact ⟨by rw [show i - 1 = 6 by omega], rfl⟩
      · refine E_aload_n dX3_quietRolls_23 (by rfl) ?_
        refine gf_X3_10 dX3_quietRolls_24 rfl (by assumption) (by rfl) ?_
        refine E_iload_n dX3_quietRolls_27 (by rfl) ?_
        refine cs_X3_quietRolls_28 (by assumption) (Nat.le_of_ble_eq_true rfl) (c_wouldLift h.2.1 ht hc hn hm6 (nI i)) ?_
        refine E_if_ne (tgt := 40) dX3_quietRolls_31 (by decide) (fun q31 => ?_) (fun q31 => ?_)
        · rw [b2i_T0] at q31; have q31 : ¬ g_qt (k_gm C) n i := fun z => q31 (fun w => Bool.false_ne_true (w.symm.trans z))
          refine E_iinc (d := 1) dX3_quietRolls_40 (by rfl) (by decide) (Nat.le_of_ble_eq_true rfl) (by rfl) ?_
          refine E_goto (tgt := 17) dX3_quietRolls_43 (by decide) ?_
          exact E_loc [(0, .ref 0), (1, .int (sQu (g_qt (k_gm C) n) ((i + 1) - 1))), (2, .int (nI (i + 1)))] ⟨rfl, x_i (by rw [show i + 1 - 1 = (i - 1) + 1 by omega, sQu, show i - 1 + 1 = i by omega]; first | rw [if_pos q31] | rw [if_neg q31]), x_i (by first | exact nI_1 _ | decide), trivial⟩ (ihi (i + 1) (by omega) (by omega) (by omega))
        · rw [b2i_T0] at q31; have q31 : g_qt (k_gm C) n i := by unfold g_qt; cases hz : sNo (fun c => g_psd (k_gm C) c (nI i)) n; exact absurd hz q31; rfl
          refine E_iload_n dX3_quietRolls_34 (by rfl) ?_
          refine E_iconst (v := 1) dX3_quietRolls_35 (by decide) ?_
          refine E_iload_n dX3_quietRolls_36 (by rfl) ?_
          refine E_ishl dX3_quietRolls_37 ?_
          refine E_ior dX3_quietRolls_38 ?_
          refine E_istore_n dX3_quietRolls_39 (Nat.le_of_ble_eq_true rfl) (by rfl) ?_
          refine E_iinc (d := 1) dX3_quietRolls_40 (by rfl) (by decide) (Nat.le_of_ble_eq_true rfl) (by rfl) ?_
          refine E_goto (tgt := 17) dX3_quietRolls_43 (by decide) ?_
          exact E_loc [(0, .ref 0), (1, .int (sQu (g_qt (k_gm C) n) ((i + 1) - 1))), (2, .int (nI (i + 1)))] ⟨rfl, x_i (by rw [show i + 1 - 1 = (i - 1) + 1 by omega, sQu, show i - 1 + 1 = i by omega]; first | rw [if_pos q31] | rw [if_neg q31]), x_i (by first | exact nI_1 _ | decide), trivial⟩ (ihi (i + 1) (by omega) (by omega) (by omega))
  refine E_aload_n dX3_quietRolls_0 (by rfl) ?_
  refine gf_X3_10 dX3_quietRolls_1 rfl (by assumption) (by rfl) ?_
  refine cs_X3_quietRolls_4 (by assumption) (Nat.le_of_ble_eq_true rfl) (c_hasMover h.2.1) ?_
  refine E_if_ne (tgt := 13) dX3_quietRolls_7 (by decide) (fun q7 => ?_) (fun q7 => ?_)
  · refine E_iconst (v := 0) dX3_quietRolls_13 (by decide) ?_
    refine E_istore_n dX3_quietRolls_14 (Nat.le_of_ble_eq_true rfl) (by rfl) ?_
    refine E_iconst (v := 1) dX3_quietRolls_15 (by decide) ?_
    refine E_istore_n dX3_quietRolls_16 (Nat.le_of_ble_eq_true rfl) (by rfl) ?_
    exact E_loc [(0, .ref 0), (1, .int (sQu (g_qt (k_gm C) n) (1 - 1))), (2, .int (nI 1))] ⟨rfl, x_i (by rfl), x_i (by decide), trivial⟩ (loop (7 + 1) 1 (by omega) (by omega) (Nat.le_refl _))
  · rw [b2i_T0] at q7; exact absurd hm q7
/-! texts; undo; what is saved -/
end K2
