/-! methods of Game that read alone -/
theorem b2i_nar {p : Prop} [Decidable p] : narrow .boolean (.int (b2i p)) = .int (b2i p) := by
  unfold b2i
  by_cases h : p
  · rw [if_pos h]; decide
  · rw [if_neg h]; decide
theorem b2i_T0 {p : Prop} [Decidable p] : (b2i p).toInt = 0 ↔ ¬ p := by
  unfold b2i
  by_cases h : p <;> simp [h]
section G1
variable {G : xG} {mem : xM} {g : Nat} {S : gS}
abbrev g_below (S : gS) (x : Int32) : Prop := 0 ≤ x.toInt ∧ x.toInt < (g_top S).toInt
abbrev g_isCl (S : gS) (x : Int32) : Prop := 0 ≤ x.toInt ∧ x.toInt < (g_cl S).toInt
abbrev g_isLa (S : gS) (x : Int32) : Prop := (0 ≤ x.toInt ∧ x.toInt < (g_top S).toInt) ∧ (g_la S x.toNatClampNeg).toInt ≠ 0
abbrev g_isUp (S : gS) (x : Int32) : Prop := (0 ≤ x.toInt ∧ x.toInt < (g_top S).toInt) ∧ (g_le S x.toNatClampNeg).toInt ≠ -6
theorem c_isBelowTop (h : gAt mem g S) (x : Int32) : Dt G kX0_isBelowTop [.ref g, .int x] mem (some (.int (b2i (g_below S x)))) mem := by
  obtain ⟨a0, a1, a2, a3, a4, a5, a6, a7, a8⟩ := h
  refine Ct_of (by decide) (Nat.le_of_ble_eq_true rfl) ?_
  refine E_iload_n dX0_isBelowTop_0 (by rfl) ?_
  refine E_if_lt (tgt := 16) dX0_isBelowTop_1 (by decide) (fun q1 => ?_) (fun q1 => ?_)
  · refine E_iconst (v := 0) dX0_isBelowTop_16 (by decide) ?_
    refine E_iret dX0_isBelowTop_17 rfl (by decide) (Nat.zero_le _) (Nat.zero_le _) ?_
    first | exact ⟨by rw [b2i_t (by omega)], rfl⟩ | exact ⟨by rw [b2i_f (by omega)], rfl⟩
  · refine E_iload_n dX0_isBelowTop_4 (by rfl) ?_
    refine E_aload_n dX0_isBelowTop_5 (by rfl) ?_
    refine gf_X0_37 dX0_isBelowTop_6 rfl (by assumption) (by rfl) ?_
    refine E_icmp_ge (n := _) rfl (tgt := 16) dX0_isBelowTop_9 (by decide) (fun q9 => ?_) (fun q9 => ?_)
    · refine E_iconst (v := 0) dX0_isBelowTop_16 (by decide) ?_
      refine E_iret dX0_isBelowTop_17 rfl (by decide) (Nat.zero_le _) (Nat.zero_le _) ?_
      first | exact ⟨by rw [b2i_t (by omega)], rfl⟩ | exact ⟨by rw [b2i_f (by omega)], rfl⟩
    · refine E_iconst (v := 1) dX0_isBelowTop_12 (by decide) ?_
      refine E_goto (tgt := 17) dX0_isBelowTop_13 (by decide) ?_
      refine E_iret dX0_isBelowTop_17 rfl (by decide) (Nat.zero_le _) (Nat.zero_le _) ?_
      first | exact ⟨by rw [b2i_t (by omega)], rfl⟩ | exact ⟨by rw [b2i_f (by omega)], rfl⟩
theorem c_isClimber (h : gAt mem g S) (x : Int32) : Dt G kX0_isClimber [.ref g, .int x] mem (some (.int (b2i (g_isCl S x)))) mem := by
  obtain ⟨a0, a1, a2, a3, a4, a5, a6, a7, a8⟩ := h
  refine Ct_of (by decide) (Nat.le_of_ble_eq_true rfl) ?_
  refine E_iload_n dX0_isClimber_0 (by rfl) ?_
  refine E_if_lt (tgt := 16) dX0_isClimber_1 (by decide) (fun q1 => ?_) (fun q1 => ?_)
  · refine E_iconst (v := 0) dX0_isClimber_16 (by decide) ?_
    refine E_iret dX0_isClimber_17 rfl (by decide) (Nat.zero_le _) (Nat.zero_le _) ?_
    first | exact ⟨by rw [b2i_t (by omega)], rfl⟩ | exact ⟨by rw [b2i_f (by omega)], rfl⟩
  · refine E_iload_n dX0_isClimber_4 (by rfl) ?_
    refine E_aload_n dX0_isClimber_5 (by rfl) ?_
    refine gf_X0_41 dX0_isClimber_6 rfl (by assumption) (by rfl) ?_
    refine E_icmp_ge (n := _) rfl (tgt := 16) dX0_isClimber_9 (by decide) (fun q9 => ?_) (fun q9 => ?_)
    · refine E_iconst (v := 0) dX0_isClimber_16 (by decide) ?_
      refine E_iret dX0_isClimber_17 rfl (by decide) (Nat.zero_le _) (Nat.zero_le _) ?_
      first | exact ⟨by rw [b2i_t (by omega)], rfl⟩ | exact ⟨by rw [b2i_f (by omega)], rfl⟩
    · refine E_iconst (v := 1) dX0_isClimber_12 (by decide) ?_
      refine E_goto (tgt := 17) dX0_isClimber_13 (by decide) ?_
      refine E_iret dX0_isClimber_17 rfl (by decide) (Nat.zero_le _) (Nat.zero_le _) ?_
      first | exact ⟨by rw [b2i_t (by omega)], rfl⟩ | exact ⟨by rw [b2i_f (by omega)], rfl⟩
theorem c_hasMover (h : gAt mem g S) : Dt G kX0_hasMover [.ref g] mem (some (.int (b2i (g_isCl S (g_mv S))))) mem := by
  obtain ⟨a0, a1, a2, a3, a4, a5, a6, a7, a8⟩ := id h
  refine Ct_of (by decide) (Nat.le_of_ble_eq_true rfl) ?_
  refine E_aload_n dX0_hasMover_0 (by rfl) ?_
  refine E_aload_n dX0_hasMover_1 (by rfl) ?_
  refine gf_X0_44 dX0_hasMover_2 rfl (by assumption) (by rfl) ?_
  refine cs_X0_hasMover_5 (by assumption) (Nat.le_of_ble_eq_true rfl) (c_isClimber h _) ?_
  refine E_iret dX0_hasMover_8 rfl b2i_nar (Nat.zero_le _) (Nat.zero_le _) ?_
  exact ⟨rfl, rfl⟩
theorem c_isLanding (h : gAt mem g S) (ht : (g_top S).toInt ≤ 60) (x : Int32) : Dt G kX0_isLanding [.ref g, .int x] mem (some (.int (b2i (g_isLa S x)))) mem := by
  obtain ⟨a0, a1, a2, a3, a4, a5, a6, a7, a8⟩ := id h
  refine Ct_of (by decide) (Nat.le_of_ble_eq_true rfl) ?_
  refine E_iload_n dX0_isLanding_0 (by rfl) ?_
  refine E_if_lt (tgt := 25) dX0_isLanding_1 (by decide) (fun q1 => ?_) (fun q1 => ?_)
  · refine E_iconst (v := 0) dX0_isLanding_25 (by decide) ?_
    refine E_iret dX0_isLanding_26 rfl (by decide) (Nat.zero_le _) (Nat.zero_le _) ?_
    first | exact ⟨by rw [b2i_t (by omega)], rfl⟩ | exact ⟨by rw [b2i_f (by omega)], rfl⟩
  · refine E_iload_n dX0_isLanding_4 (by rfl) ?_
    refine E_aload_n dX0_isLanding_5 (by rfl) ?_
    refine gf_X0_37 dX0_isLanding_6 rfl (by assumption) (by rfl) ?_
    refine E_icmp_ge (n := _) rfl (tgt := 25) dX0_isLanding_9 (by decide) (fun q9 => ?_) (fun q9 => ?_)
    · refine E_iconst (v := 0) dX0_isLanding_25 (by decide) ?_
      refine E_iret dX0_isLanding_26 rfl (by decide) (Nat.zero_le _) (Nat.zero_le _) ?_
      first | exact ⟨by rw [b2i_t (by omega)], rfl⟩ | exact ⟨by rw [b2i_f (by omega)], rfl⟩
    · refine E_aload_n dX0_isLanding_12 (by rfl) ?_
      refine gf_X0_15 dX0_isLanding_13 rfl (by assumption) (by rfl) ?_
      refine E_iload_n dX0_isLanding_16 (by rfl) ?_
      refine E_zald dX0_isLanding_17 (by assumption) (i_in (by omega) (by omega)) ?_
      refine E_if_eq (tgt := 25) dX0_isLanding_18 (by decide) (fun q18 => ?_) (fun q18 => ?_)
      · refine E_iconst (v := 0) dX0_isLanding_25 (by decide) ?_
        refine E_iret dX0_isLanding_26 rfl (by decide) (Nat.zero_le _) (Nat.zero_le _) ?_
        first | exact ⟨by rw [b2i_t (by omega)], rfl⟩ | exact ⟨by rw [b2i_f (by omega)], rfl⟩
      · refine E_iconst (v := 1) dX0_isLanding_21 (by decide) ?_
        refine E_goto (tgt := 26) dX0_isLanding_22 (by decide) ?_
        refine E_iret dX0_isLanding_26 rfl (by decide) (Nat.zero_le _) (Nat.zero_le _) ?_
        first | exact ⟨by rw [b2i_t (by omega)], rfl⟩ | exact ⟨by rw [b2i_f (by omega)], rfl⟩
theorem c_isUpperEnd (h : gAt mem g S) (ht : (g_top S).toInt ≤ 60) (x : Int32) : Dt G kX0_isUpperEnd [.ref g, .int x] mem (some (.int (b2i (g_isUp S x)))) mem := by
  obtain ⟨a0, a1, a2, a3, a4, a5, a6, a7, a8⟩ := id h
  refine Ct_of (by decide) (Nat.le_of_ble_eq_true rfl) ?_
  refine E_iload_n dX0_isUpperEnd_0 (by rfl) ?_
  refine E_if_lt (tgt := 27) dX0_isUpperEnd_1 (by decide) (fun q1 => ?_) (fun q1 => ?_)
  · refine E_iconst (v := 0) dX0_isUpperEnd_27 (by decide) ?_
    refine E_iret dX0_isUpperEnd_28 rfl (by decide) (Nat.zero_le _) (Nat.zero_le _) ?_
    first | exact ⟨by rw [b2i_t (by omega)], rfl⟩ | exact ⟨by rw [b2i_f (by omega)], rfl⟩
  · refine E_iload_n dX0_isUpperEnd_4 (by rfl) ?_
    refine E_aload_n dX0_isUpperEnd_5 (by rfl) ?_
    refine gf_X0_37 dX0_isUpperEnd_6 rfl (by assumption) (by rfl) ?_
    refine E_icmp_ge (n := _) rfl (tgt := 27) dX0_isUpperEnd_9 (by decide) (fun q9 => ?_) (fun q9 => ?_)
    · refine E_iconst (v := 0) dX0_isUpperEnd_27 (by decide) ?_
      refine E_iret dX0_isUpperEnd_28 rfl (by decide) (Nat.zero_le _) (Nat.zero_le _) ?_
      first | exact ⟨by rw [b2i_t (by omega)], rfl⟩ | exact ⟨by rw [b2i_f (by omega)], rfl⟩
    · refine E_aload_n dX0_isUpperEnd_12 (by rfl) ?_
      refine gf_X0_9 dX0_isUpperEnd_13 rfl (by assumption) (by rfl) ?_
      refine E_iload_n dX0_isUpperEnd_16 (by rfl) ?_
      refine E_iald dX0_isUpperEnd_17 (by assumption) (i_in (by omega) (by omega)) ?_
      refine E_bipush (v := (-6)) dX0_isUpperEnd_18 (by decide) ?_
      refine E_icmp_eq (n := (-6)) (by decide) (tgt := 27) dX0_isUpperEnd_20 (by decide) (fun q20 => ?_) (fun q20 => ?_)
      · refine E_iconst (v := 0) dX0_isUpperEnd_27 (by decide) ?_
        refine E_iret dX0_isUpperEnd_28 rfl (by decide) (Nat.zero_le _) (Nat.zero_le _) ?_
        first | exact ⟨by rw [b2i_t (by omega)], rfl⟩ | exact ⟨by rw [b2i_f (by omega)], rfl⟩
      · refine E_iconst (v := 1) dX0_isUpperEnd_23 (by decide) ?_
        refine E_goto (tgt := 28) dX0_isUpperEnd_24 (by decide) ?_
        refine E_iret dX0_isUpperEnd_28 rfl (by decide) (Nat.zero_le _) (Nat.zero_le _) ?_
        first | exact ⟨by rw [b2i_t (by omega)], rfl⟩ | exact ⟨by rw [b2i_f (by omega)], rfl⟩
theorem c_behind (h : gAt mem g S) (x : Int32) : Dt G kX0_behind [.ref g, .int x] mem (some (.int (if g_isCl S (x + 1) then x + 1 else 0))) mem := by
  obtain ⟨a0, a1, a2, a3, a4, a5, a6, a7, a8⟩ := id h
  refine Ct_of (by decide) (Nat.le_of_ble_eq_true rfl) ?_
  refine E_aload_n dX0_behind_0 (by rfl) ?_
  refine E_iload_n dX0_behind_1 (by rfl) ?_
  refine E_iconst (v := 1) dX0_behind_2 (by decide) ?_
  refine E_iadd dX0_behind_3 ?_
  refine cs_X0_behind_4 (by assumption) (Nat.le_of_ble_eq_true rfl) (c_isClimber h _) ?_
  refine E_if_eq (tgt := 16) dX0_behind_7 (by decide) (fun q7 => ?_) (fun q7 => ?_)
  · refine E_iconst (v := 0) dX0_behind_16 (by decide) ?_
    refine E_iret dX0_behind_17 rfl rfl (Nat.zero_le _) (Nat.zero_le _) ?_
    rw [b2i_T0] at q7
    first | exact ⟨by rw [if_neg q7], rfl⟩ | exact ⟨by rw [if_pos (Classical.not_not.mp q7)], rfl⟩
  · refine E_iload_n dX0_behind_10 (by rfl) ?_
    refine E_iconst (v := 1) dX0_behind_11 (by decide) ?_
    refine E_iadd dX0_behind_12 ?_
    refine E_goto (tgt := 17) dX0_behind_13 (by decide) ?_
    refine E_iret dX0_behind_17 rfl rfl (Nat.zero_le _) (Nat.zero_le _) ?_
    rw [b2i_T0] at q7
    first | exact ⟨by rw [if_neg q7], rfl⟩ | exact ⟨by rw [if_pos (Classical.not_not.mp q7)], rfl⟩
end G1
