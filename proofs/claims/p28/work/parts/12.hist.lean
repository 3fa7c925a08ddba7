/-! History -/
section H1
variable {G : xG} {mem : xM} {g : Nat} {S T A : gS} {t n : Nat}
theorem x_set_self {mem : xM} {i : Nat} {c : va_E} (h : mem[i]? = some c) : mem.set i c = mem := by
  apply List.ext_getElem?
  intro j
  by_cases e : i = j
  · subst e
    rw [List.getElem?_set_self (List.getElem?_eq_some_iff.mp h).1, h]
  · rw [List.getElem?_set_ne e]
theorem x_get_set {mem : xM} {i j : Nat} {c d : va_E} (h : mem[j]? = some d) (hne : i ≠ j) : (mem.set i c)[j]? = some d := by
  rw [List.getElem?_set_ne hne]; exact h
theorem x_get_same {mem : xM} {i : Nat} {c d : va_E} (h : mem[i]? = some d) : (mem.set i c)[i]? = some c := List.getElem?_set_self (List.getElem?_eq_some_iff.mp h).1
theorem gAt_set {i : Nat} {c : va_E} (h : gAt mem g S) (hi : i < g ∨ g + 9 ≤ i) : gAt (mem.set i c) g S := by
  obtain ⟨b0, b1, b2, b3, b4, b5, b6, b7, b8⟩ := h
  exact ⟨x_get_set b0 (by omega), x_get_set b1 (by omega), x_get_set b2 (by omega), x_get_set b3 (by omega), x_get_set b4 (by omega), x_get_set b5 (by omega), x_get_set b6 (by omega), x_get_set b7 (by omega), x_get_set b8 (by omega)⟩
abbrev h_o (c : Int32) : va_E := .inr (1, [.ref 38, .int c])
abbrev h_r (f : Nat → Option Nat) : va_E := .inl (3, 5, .inr (.inr (.inr (.inr f))))
def fSh (f : Nat → Option Nat) (i : Nat) : Nat → Option Nat := fun j => if j + 1 < i then f (j + 1) else f j
def fRot (f : Nat → Option Nat) : Nat → Option Nat := va_up (fSh f 5) 4 (f 0)
theorem fSh_step {f : Nat → Option Nat} {i a : Nat} (hi : 1 ≤ i) (hf : f i = some a) : va_up (fSh f i) (i - 1) (some a) = fSh f (i + 1) := by
  funext j
  unfold va_up fSh
  by_cases e : j = i - 1
  · subst e
    rw [if_pos rfl, if_pos (by omega), show i - 1 + 1 = i by omega]
    exact hf.symm
  · rw [if_neg e]
    by_cases e2 : j + 1 < i
    · rw [if_pos e2, if_pos (by omega)]
    · rw [if_neg e2, if_neg (by omega)]
theorem c_makeOldestLast {c : Int32} {f : Nat → Option Nat} {p : Nat → Nat} {h : Nat → gS} (h0 : mem[37]? = some (h_o c)) (h1 : mem[38]? = some (h_r f)) (hf : ∀ j, j < 5 → f j = some (p j)) (hg : ∀ j, j < 5 → gAt mem (p j) (h j)) (hp : ∀ j, j < 5 → 39 ≤ p j) : Dt G kX1_makeOldestLast [.ref 37] mem none (mem.set 38 (h_r (fRot f))) := by
  have e5 : (5 : Int32).toInt = 5 := by decide
  refine Ct_of (by decide) (Nat.le_of_ble_eq_true rfl) ?_
  have loop : ∀ di i : Nat, 5 < i + di → i ≤ 5 → (1 ≤ i) → E G kX1_makeOldestLast (x_R (none) (mem.set 38 (h_r (fRot f)))) 0 0 ((mem.set 38 (h_r (fSh f i)))) 9 (x_L [(0, .ref 37), (1, .ref (p 0)), (2, .int (nI i))]) [] := by
    intro di
    induction di with
    | zero => intro i hi1 hi2 _; exact absurd hi1 (by omega)
    | succ di ihi =>
      intro i hi1 hi2 hinv
      have ei : (nI i).toInt = (i : Int) := nI_toInt (by omega)
      have eci : (nI i).toNatClampNeg = i := nI_clamp (by omega)
      have l0 : (mem.set 38 (h_r (fSh f i)))[37]? = some (h_o c) := x_get_set h0 (by decide)
      have l1 : (mem.set 38 (h_r (fSh f i)))[38]? = some (h_r (fSh f i)) := x_get_same h1
      refine E_iload_n dX1_makeOldestLast_9 (by rfl) ?_
      refine E_iconst (v := 5) dX1_makeOldestLast_10 (by decide) ?_
      refine E_icmp_ge (n := 5) (by decide) (tgt := 34) dX1_makeOldestLast_11 (by decide) (fun q11 => ?_) (fun q11 => ?_)
      · obtain rfl : i = 5 := by omega
        have l2 : (mem.set 38 (h_r (fSh f 5)))[p 0]? = some (g_o (p 0) (h 0)) := x_get_set (hg 0 (by decide)).1 (by have := hp 0 (by decide); omega)
        refine E_aload_n dX1_makeOldestLast_34 (by rfl) ?_
        refine gf_X1_11 dX1_makeOldestLast_35 rfl (by assumption) (by rfl) ?_
        refine E_iconst (v := 4) dX1_makeOldestLast_38 (by decide) ?_
        refine E_aload_n dX1_makeOldestLast_39 (by rfl) ?_
        refine E_aast dX1_makeOldestLast_40 (by assumption) l2 (i_in (by decide) (by decide)) ?_
        refine E_vret dX1_makeOldestLast_41 rfl (Nat.zero_le _) (Nat.zero_le _) ?_
        refine ⟨rfl, ?_⟩
        rw [List.set_set, fRot, hf 0 (by decide)]
        rfl
      · refine E_aload_n dX1_makeOldestLast_14 (by rfl) ?_
        refine gf_X1_11 dX1_makeOldestLast_15 rfl (by assumption) (by rfl) ?_
        refine E_iload_n dX1_makeOldestLast_18 (by rfl) ?_
        have es : (nI i - 1).toInt = (i : Int) - 1 := by rw [show nI i - 1 = nI (i - 1) from pk_sub hinv, nI_toInt (by omega)]; omega
        refine E_iconst (v := 1) dX1_makeOldestLast_19 (by decide) ?_
        refine E_isub dX1_makeOldestLast_20 ?_
        refine E_aload_n dX1_makeOldestLast_21 (by rfl) ?_
        refine gf_X1_11 dX1_makeOldestLast_22 rfl (by assumption) (by rfl) ?_
        refine E_iload_n dX1_makeOldestLast_25 (by rfl) ?_
        have h5 : i < 5 := by omega
        have l2 : (mem.set 38 (h_r (fSh f i)))[p i]? = some (g_o (p i) (h i)) := x_get_set (hg i h5).1 (by have := hp i h5; omega)
        refine E_aald dX1_makeOldestLast_26 (by assumption) (i_in (by omega) (by omega)) (by rw [eci, fSh, if_neg (by omega)]; exact hf i h5) ?_
        refine E_aast dX1_makeOldestLast_27 (by assumption) l2 (i_in (by omega) (by omega)) ?_
        refine E_iinc (d := 1) dX1_makeOldestLast_28 (by rfl) (by decide) (Nat.le_of_ble_eq_true rfl) (by rfl) ?_
        refine E_goto (tgt := 9) dX1_makeOldestLast_31 (by decide) ?_
        refine E_mem (mem' := mem.set 38 (h_r (fSh f (i + 1)))) ?_ ?_
        · rw [List.set_set, show nI i - 1 = nI (i - 1) from pk_sub hinv, nI_clamp (by omega), fSh_step hinv (hf i h5)]
        exact E_loc [(0, .ref 37), (1, .ref (p 0)), (2, .int (nI (i + 1)))] ⟨rfl, rfl, x_i (by first | exact nI_1 _ | decide), trivial⟩ (ihi (i + 1) (by omega) (by omega) (by omega))
  have z1 : fSh f 1 = f := by funext j; unfold fSh; rw [if_neg (by omega)]
  have z2 : mem.set 38 (h_r (fSh f 1)) = mem := by rw [z1]; exact x_set_self h1
  refine E_aload_n dX1_makeOldestLast_0 (by rfl) ?_
  refine gf_X1_11 dX1_makeOldestLast_1 rfl (by assumption) (by rfl) ?_
  refine E_iconst (v := 0) dX1_makeOldestLast_4 (by decide) ?_
  refine E_aald dX1_makeOldestLast_5 (by assumption) (i_in (by decide) (by decide)) (hf 0 (by decide)) ?_
  refine E_astore_n dX1_makeOldestLast_6 (Nat.le_of_ble_eq_true rfl) (by rfl) ?_
  refine E_iconst (v := 1) dX1_makeOldestLast_7 (by decide) ?_
  refine E_istore_n dX1_makeOldestLast_8 (Nat.le_of_ble_eq_true rfl) (by rfl) ?_
  refine E_mem z2.symm ?_
  exact E_loc [(0, .ref 37), (1, .ref (p 0)), (2, .int (nI 1))] ⟨rfl, rfl, x_i (by decide), trivial⟩ (loop (5 + 1) 1 (by omega) (by omega) (Nat.le_refl _))
/-- the recorded states: at p 0 .. p 4 in the order of the row; apart, and away from the rest -/
def hAt (mem : xM) (c : Nat) (p : Nat → Nat) (h : Nat → gS) : Prop := mem[37]? = some (h_o (nI c)) ∧ (∃ f, mem[38]? = some (h_r f) ∧ ∀ j, j < 5 → f j = some (p j)) ∧ (∀ j, j < 5 → gAt mem (p j) (h j)) ∧ (∀ j, j < 5 → 39 ≤ p j ∧ p j + 9 ≤ 84) ∧ ∀ i j, i < 5 → j < 5 → i ≠ j → p i + 9 ≤ p j ∨ p j + 9 ≤ p i
theorem c_keep_lo {c a : Nat} {p : Nat → Nat} {h : Nat → gS} (hh : hAt mem c p h) (hc : c < 5) (ha : gAt mem a A) (ha37 : a + 9 ≤ 37) (hla : g_la01 A) : Dt G kX1_keep [.ref 37, .ref a] mem none ((gPut mem (p c) A).set 37 (h_o (nI (c + 1)))) := by
  obtain ⟨h0, ⟨f, h1, hf⟩, hg, hp, hap⟩ := hh
  have ec : (nI c).toInt = (c : Int) := nI_toInt (by omega)
  have ecl : (nI c).toNatClampNeg = c := nI_clamp (by omega)
  have e5 : (5 : Int32).toInt = 5 := by decide
  have hpc := hp c hc
  have hgc := hg c hc
  have hcopy := c_copyFrom (G := G) (T := h c) hgc ha (Or.inl (by omega)) hla
  rw [gPut_self hgc] at hcopy
  have l0 : (gPut mem (p c) A)[37]? = some (h_o (nI c)) := (gPut_other hgc A (by omega)).trans h0
  have m0 := hgc.1
  refine Ct_of (by decide) (Nat.le_of_ble_eq_true rfl) ?_
  refine E_aload_n dX1_keep_0 (by rfl) ?_
  refine gf_X1_17 dX1_keep_1 rfl (by assumption) (by rfl) ?_
  refine E_iconst (v := 5) dX1_keep_4 (by decide) ?_
  refine E_icmp_lt (n := 5) (by decide) (tgt := 17) dX1_keep_5 (by decide) (fun q5 => ?_) (fun q5 => ?_)
  · refine E_aload_n dX1_keep_17 (by rfl) ?_
    refine gf_X1_11 dX1_keep_18 rfl (by assumption) (by rfl) ?_
    refine E_aload_n dX1_keep_21 (by rfl) ?_
    refine gf_X1_17 dX1_keep_22 rfl (by assumption) (by rfl) ?_
    refine E_aald dX1_keep_25 (by assumption) (i_in (by omega) (by omega)) (by rw [ecl]; exact hf c hc) ?_
    refine E_astore_n dX1_keep_26 (Nat.le_of_ble_eq_true rfl) (by rfl) ?_
    refine E_aload_n dX1_keep_27 (by rfl) ?_
    refine E_ifnull dX1_keep_28 ?_
    refine E_aload_n dX1_keep_31 (by rfl) ?_
    refine E_aload_n dX1_keep_32 (by rfl) ?_
    refine cs_X1_keep_33 (by assumption) (Nat.le_of_ble_eq_true rfl) hcopy ?_
    refine E_aload_n dX1_keep_36 (by rfl) ?_
    refine E_dup dX1_keep_37 rfl ?_
    refine gf_X1_17 dX1_keep_38 rfl (by assumption) (by rfl) ?_
    refine E_iconst (v := 1) dX1_keep_41 (by decide) ?_
    refine E_iadd dX1_keep_42 ?_
    refine pf_X1_17 dX1_keep_43 rfl (by assumption) (Nat.le_of_ble_eq_true rfl) ?_
    refine E_vret dX1_keep_46 rfl (Nat.zero_le _) (Nat.zero_le _) ?_
    refine ⟨rfl, ?_⟩
    rw [show nI c + 1 = nI (c + 1) from nI_1 c]
    rfl
  · exact absurd q5 (by omega)
theorem c_keep_hi {a : Nat} {p : Nat → Nat} {h : Nat → gS} (hh : hAt mem 5 p h) (ha : gAt mem a A) (ha37 : a + 9 ≤ 37) (hla : g_la01 A) : ∃ f : Nat → Option Nat, (∀ j, j < 4 → f j = some (p (j + 1))) ∧ f 4 = some (p 0) ∧ Dt G kX1_keep [.ref 37, .ref a] mem none ((gPut ((mem.set 38 (h_r f)).set 37 (h_o 4)) (p 0) A).set 37 (h_o 5)) := by
  obtain ⟨h0, ⟨f, h1, hf⟩, hg, hp, hap⟩ := hh
  have k4 : fRot f 4 = some (p 0) := by unfold fRot va_up; rw [if_pos rfl]; exact hf 0 (by decide)
  refine ⟨fRot f, fun j hj => ?_, k4, ?_⟩
  · unfold fRot va_up fSh
    rw [if_neg (by omega), if_pos (by omega)]
    exact hf (j + 1) (by omega)
  have e5 : (5 : Int32).toInt = 5 := by decide
  have hp0 := hp 0 (by decide)
  have hg0 : gAt ((mem.set 38 (h_r (fRot f))).set 37 (h_o 4)) (p 0) (h 0) := gAt_set (gAt_set (hg 0 (by decide)) (by omega)) (by omega)
  have ha0 : gAt ((mem.set 38 (h_r (fRot f))).set 37 (h_o 4)) a A := gAt_set (gAt_set ha (by omega)) (by omega)
  have hcopy := c_copyFrom (G := G) (T := h 0) hg0 ha0 (Or.inl (by omega)) hla
  rw [gPut_self hg0] at hcopy
  have k0 : (mem.set 38 (h_r (fRot f)))[37]? = some (h_o (nI 5)) := x_get_set h0 (by decide)
  have k1 : ((mem.set 38 (h_r (fRot f))).set 37 (h_o 4))[37]? = some (h_o 4) := x_get_same k0
  have k2 : ((mem.set 38 (h_r (fRot f))).set 37 (h_o 4))[38]? = some (h_r (fRot f)) := x_get_set (x_get_same h1) (by decide)
  have m0 := hg0.1
  have l0 : (gPut ((mem.set 38 (h_r (fRot f))).set 37 (h_o 4)) (p 0) A)[37]? = some (h_o 4) := (gPut_other hg0 A (by omega)).trans k1
  refine Ct_of (by decide) (Nat.le_of_ble_eq_true rfl) ?_
  refine E_aload_n dX1_keep_0 (by rfl) ?_
  refine gf_X1_17 dX1_keep_1 rfl (by assumption) (by rfl) ?_
  refine E_iconst (v := 5) dX1_keep_4 (by decide) ?_
  refine E_icmp_lt (n := 5) (by decide) (tgt := 17) dX1_keep_5 (by decide) (fun q5 => ?_) (fun q5 => ?_)
  · exact absurd q5 (by decide)
  · refine E_aload_n dX1_keep_8 (by rfl) ?_
    refine cs_X1_keep_9 (by assumption) (Nat.le_of_ble_eq_true rfl) (c_makeOldestLast h0 h1 hf hg (fun j hj => (hp j hj).1)) ?_
    refine E_aload_n dX1_keep_12 (by rfl) ?_
    refine E_iconst (v := 4) dX1_keep_13 (by decide) ?_
    refine pf_X1_17 dX1_keep_14 rfl (by assumption) (Nat.le_of_ble_eq_true rfl) ?_
    refine E_mem (mem' := (mem.set 38 (h_r (fRot f))).set 37 (h_o 4)) rfl ?_
    refine E_aload_n dX1_keep_17 (by rfl) ?_
    refine gf_X1_11 dX1_keep_18 rfl (by assumption) (by rfl) ?_
    refine E_aload_n dX1_keep_21 (by rfl) ?_
    refine gf_X1_17 dX1_keep_22 rfl (by assumption) (by rfl) ?_
    refine E_aald dX1_keep_25 (by assumption) (i_in (by decide) (by decide)) k4 ?_
    refine E_astore_n dX1_keep_26 (Nat.le_of_ble_eq_true rfl) (by rfl) ?_
    refine E_aload_n dX1_keep_27 (by rfl) ?_
    refine E_ifnull dX1_keep_28 ?_
    refine E_aload_n dX1_keep_31 (by rfl) ?_
    refine E_aload_n dX1_keep_32 (by rfl) ?_
    refine cs_X1_keep_33 (by assumption) (Nat.le_of_ble_eq_true rfl) hcopy ?_
    refine E_aload_n dX1_keep_36 (by rfl) ?_
    refine E_dup dX1_keep_37 rfl ?_
    refine gf_X1_17 dX1_keep_38 rfl (by assumption) (by rfl) ?_
    refine E_iconst (v := 1) dX1_keep_41 (by decide) ?_
    refine E_iadd dX1_keep_42 ?_
    refine pf_X1_17 dX1_keep_43 rfl (by assumption) (Nat.le_of_ble_eq_true rfl) ?_
    refine E_vret dX1_keep_46 rfl (Nat.zero_le _) (Nat.zero_le _) ?_
    exact ⟨rfl, rfl⟩
end H1
