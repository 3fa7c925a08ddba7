/-! the law: its entry -/
section EN
variable {G : xG} {k : xI} {R : Option Value → xM → Prop} {ce sl : Nat} {mem : xM} {pc i L : Nat} {loc : Nat → Option Value} {st : List Value}
theorem x_dv3 : ∀ j, j < 7 → defaultValue (tyX3 j) = vp_V (([.null, .null, .null, .null, .null, .null, .int 0] : List Value).map (x_v G)) j := by
  intro j hj
  match j, hj with
  | 0, _ => rfl
  | 1, _ => rfl
  | 2, _ => rfl
  | 3, _ => rfl
  | 4, _ => rfl
  | 5, _ => rfl
  | 6, _ => rfl
theorem E_newiL {n : Int32} {N L : Nat} (hL : mem.length = L) (hd : decode k.2.1 pc = .ok (.newarray .int, 2)) (harr : Cond.arrayClass .int ∈ x_tbl) (hn : ¬ n < 0) (hN : n.toNatClampNeg = N) (hbytes : N * componentBytes .int ≤ 536870912) (hc : ce + 1 ≤ k.2.2.2.2.2.2.1) (hs : sl + N ≤ k.2.2.2.2.2.2.2) (kk : E G k R (ce + 1) (sl + N) (mem ++ [g_a 0 N (fun _ => 0)]) (pc + 2) loc (.ref L :: st)) : E G k R ce sl mem pc loc (.int n :: st) := by
  refine E_newi hd harr hn hN hbytes hc hs ?_
  rw [hL]
  exact kk
def fD (i : Nat) : Nat → Int32 := fun j => if j < i then -1 else 0
theorem fD_step (i : Nat) : upd (fD i) i (-1) = fD (i + 1) := by
  funext j
  show (if j = i then (-1 : Int32) else if j < i then -1 else 0) = if j < i + 1 then -1 else 0
  by_cases h : j = i
  · subst h; rw [if_pos rfl, if_pos (by omega)]
  · rw [if_neg h]
    by_cases h2 : j < i
    · rw [if_pos h2, if_pos (by omega)]
    · rw [if_neg h2, if_neg (by omega)]
abbrev fT : Nat → Int32 := upd (fun _ => 0) 0 30
abbrev m4 (f t : Nat → Int32) : xM := [g_a 0 61 f, g_a 0 61 (fun _ => 0), g_a 0 36 (fun _ => 0), g_a 0 7 t]
theorem cM0_len : cM0.length = 86 := rfl
theorem gI60_le {s : Nat} (hs : s < 60) : g_le (gI 60) s = -6 := if_pos hs
theorem StX_0 : StX (cM0 ++ m4 (fD 61) fT) 0 0 := by
  have e : cN (g_up (g_le (gI 60))) 30 = 0 := cN_none 30 (fun s hs z => z (by rw [gI60_le (by omega)]; decide))
  refine ⟨gI 60, 30, 0, fD 61, fun _ => 0, fun _ => 0, fT, ⟨cS0, cAt_0 _, rfl, Nat.zero_le _⟩, ⟨x_app_get cM0_len (j := 0) rfl, x_app_get cM0_len (j := 1) rfl, ⟨x_app_get cM0_len (j := 2) rfl, x_app_get cM0_len (j := 3) rfl⟩, ⟨rfl, fun s hs => Or.inl ⟨gI60_le hs, if_pos (by omega)⟩⟩, ⟨rfl, fun s hs => ⟨rfl, Or.inl rfl⟩⟩, ?_⟩, ?_, ?_, ?_⟩
  · refine ⟨fun i _ => rfl, fun i _ => rfl, fun i _ => rfl, fun i _ => rfl, fun i _ => ?_, fun i _ => rfl, rfl, rfl, rfl, rfl, rfl, rfl, rfl⟩
    show (0 : Int32) + (if i = 0 then 0 else 0) = 0
    split <;> rfl
  · refine ⟨rfl, by decide, by decide, rfl, by decide, rfl, Or.inr ⟨rfl, rfl⟩, fun i _ _ => ⟨rfl, rfl, rfl, rfl, rfl, rfl⟩, fun i _ => ⟨0, by decide, rfl⟩, fun i _ => Or.inl rfl, fun i _ => Or.inl rfl, fun i _ _ => rfl, fun s hs => Or.inl (gI60_le hs), rfl⟩
  · rw [sCn_nI, e]
    rfl
  · rw [e]
    decide
theorem z_entry (hGL : G.2.2.2.2.2.1 = L) (hL260 : L ≤ 260) : E G kL_law lR 0 0 [] 0 (x_L [(0, .float 0)]) [] := by
  have e61 : (61 : Int32).toInt = 61 := by decide
  have loop : ∀ di i : Nat, 61 < i + di → i ≤ 61 → E G kL_law lR 90 1762 ((cM0 ++ m4 (fD i) fT)) 42 (x_L [(0, .float 0), (1, .ref 0), (2, .ref 86), (3, .ref 87), (4, .ref 88), (5, .ref 89), (6, .int 0), (7, .int (nI i))]) [] := by
    intro di
    induction di with
    | zero => intro i hi1 hi2; exact absurd hi1 (by omega)
    | succ di ihi =>
      intro i hi1 hi2
      have ei : (nI i).toInt = (i : Int) := nI_toInt (by omega)
      have eci : (nI i).toNatClampNeg = i := nI_clamp (by omega)
      have a0 : (cM0 ++ m4 (fD i) fT)[86]? = some (g_a 0 61 (fD i)) := x_app_get cM0_len (j := 0) rfl
      refine E_iload dL_law_42 (by rfl) ?_
      refine E_bipush (v := 61) dL_law_44 (by decide) ?_
      refine E_icmp_ge (n := 61) (by decide) (tgt := 60) dL_law_46 (by decide) (fun q46 => ?_) (fun q46 => ?_)
      · obtain rfl : i = 61 := by omega
        refine E_iconst (v := 0) dL_law_60 (by decide) ?_
        refine E_istore dL_law_61 (Nat.le_of_ble_eq_true rfl) (by rfl) ?_
        exact E_loc (zL 0 0) ⟨rfl, rfl, rfl, rfl, rfl, rfl, rfl, rfl, trivial⟩ (z_loop hGL hL260 70 0 _ 0 0 (by omega) StX_0 (Or.inl ⟨rfl, rfl⟩))
      · refine E_aload_n dL_law_49 (by rfl) ?_
        refine E_iload dL_law_50 (by rfl) ?_
        refine E_iconst (v := (-1)) dL_law_52 (by decide) ?_
        refine E_wr dL_law_53 (by assumption) rfl (by omega) (by first | decide | omega) ?_
        refine E_iinc (d := 1) dL_law_54 (by rfl) (by decide) (Nat.le_of_ble_eq_true rfl) (by rfl) ?_
        refine E_goto (tgt := 42) dL_law_57 (by decide) ?_
        refine E_mem (mem' := cM0 ++ m4 (fD (i + 1)) fT) ((x_app_set (j := 0) cM0_len).trans (by rw [fD_step]; rfl)) ?_
        exact E_loc [(0, .float 0), (1, .ref 0), (2, .ref 86), (3, .ref 87), (4, .ref 88), (5, .ref 89), (6, .int 0), (7, .int (nI (i + 1)))] ⟨rfl, rfl, rfl, rfl, rfl, rfl, rfl, x_i (by first | exact nI_1 _ | decide), trivial⟩ (ihi (i + 1) (by omega) (by omega))
  refine E_newL (L := 0) (T := TX3) (N := 7) (ci := 3) rfl dL_law_0 xin_X3 tyX3_ok rfl wk_L_32 wt_X3 wn_RX3 rfl x_dv3 (Nat.le_of_ble_eq_true rfl) (Nat.le_of_ble_eq_true rfl) ?_
  refine E_mem (mem' := [k_oN]) rfl ?_
  refine E_dup dL_law_3 rfl ?_
  refine cs_L_law_4 (Nat.le_of_ble_eq_true rfl) ⟨Nat.le_of_ble_eq_true rfl, Nat.le_of_ble_eq_true rfl⟩ c_Class_init ?_
  refine E_astore_n dL_law_7 (Nat.le_of_ble_eq_true rfl) (by rfl) ?_
  refine E_bipush (v := 61) dL_law_8 (by decide) ?_
  refine E_newiL (L := 86) (N := 61) cM0_len dL_law_10 wa_int (by decide) (by decide) (Nat.le_of_ble_eq_true rfl) (Nat.le_of_ble_eq_true rfl) (Nat.le_of_ble_eq_true rfl) ?_
  refine E_astore_n dL_law_12 (Nat.le_of_ble_eq_true rfl) (by rfl) ?_
  refine E_bipush (v := 61) dL_law_13 (by decide) ?_
  refine E_newiL (L := 87) (N := 61) (by rw [List.length_append, cM0_len]; rfl) dL_law_15 wa_int (by decide) (by decide) (Nat.le_of_ble_eq_true rfl) (Nat.le_of_ble_eq_true rfl) (Nat.le_of_ble_eq_true rfl) ?_
  refine E_astore_n dL_law_17 (Nat.le_of_ble_eq_true rfl) (by rfl) ?_
  refine E_bipush (v := 36) dL_law_18 (by decide) ?_
  refine E_newiL (L := 88) (N := 36) (by rw [List.length_append, List.length_append, cM0_len]; rfl) dL_law_20 wa_int (by decide) (by decide) (Nat.le_of_ble_eq_true rfl) (Nat.le_of_ble_eq_true rfl) (Nat.le_of_ble_eq_true rfl) ?_
  refine E_astore dL_law_22 (Nat.le_of_ble_eq_true rfl) (by rfl) ?_
  refine E_bipush (v := 7) dL_law_24 (by decide) ?_
  refine E_newiL (L := 89) (N := 7) (by rw [List.length_append, List.length_append, List.length_append, cM0_len]; rfl) dL_law_26 wa_int (by decide) (by decide) (Nat.le_of_ble_eq_true rfl) (Nat.le_of_ble_eq_true rfl) (Nat.le_of_ble_eq_true rfl) ?_
  refine E_mem (mem' := cM0 ++ m4 (fun _ => 0) (fun _ => 0)) (by rw [List.append_assoc, List.append_assoc, List.append_assoc]; rfl) ?_
  have a3 : (cM0 ++ m4 (fun _ => 0) (fun _ => 0))[89]? = some (g_a 0 7 (fun _ => 0)) := x_app_get cM0_len (j := 3) rfl
  refine E_astore dL_law_28 (Nat.le_of_ble_eq_true rfl) (by rfl) ?_
  refine E_iconst (v := 0) dL_law_30 (by decide) ?_
  refine E_istore dL_law_31 (Nat.le_of_ble_eq_true rfl) (by rfl) ?_
  refine E_aload dL_law_33 (by rfl) ?_
  refine E_iconst (v := 0) dL_law_35 (by decide) ?_
  refine E_bipush (v := 30) dL_law_36 (by decide) ?_
  refine E_wr dL_law_38 (by assumption) (show (0 : Int32) = nI 0 from rfl) (by omega) (by first | decide | omega) ?_
  refine E_mem (mem' := cM0 ++ m4 (fD 0) fT) ((x_app_set (j := 3) cM0_len).trans rfl) ?_
  refine E_iconst (v := 0) dL_law_39 (by decide) ?_
  refine E_istore dL_law_40 (Nat.le_of_ble_eq_true rfl) (by rfl) ?_
  exact E_loc [(0, .float 0), (1, .ref 0), (2, .ref 86), (3, .ref 87), (4, .ref 88), (5, .ref 89), (6, .int 0), (7, .int (nI 0))] ⟨rfl, rfl, rfl, rfl, rfl, rfl, rfl, rfl, trivial⟩ (loop (61 + 1) 0 (by omega) (by omega))
end EN
