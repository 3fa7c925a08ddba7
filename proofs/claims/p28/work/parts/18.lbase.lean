/-! the law's own rows: their cells, the relation to a state of the class -/
section L0
variable {G : xG} {k : xI} {R : Option Value → xM → Prop} {ce sl : Nat} {mem m' m'' : xM} {pc : Nat} {loc : Nat → Option Value} {st : List Value}
theorem E_ldc {own : String} {index : Nat} {v : Int32} (hd : decode k.2.1 pc = .ok (.ldc index, 2)) (hown : k.1.cls = own) (hc : Cond.constant own index v ∈ x_tbl) (kk : E G k R ce sl mem (pc + 2) loc (.int v :: st)) : E G k R ce sl mem pc loc st := by
  intro p e s m args below meth c Q hF H locs ls hR hS hL
  obtain ⟨hx, hb, hml, hw, hts, -⟩ := id hF
  exact lv_ldc hx hb (by rw [← hown]; exact hw) (hts _ hc) hd (kk p e s m args below meth c Q hF H locs ls hR hS hL)
theorem vI {a n : Nat} (h : a < n) (hn : n ≤ 100) : vp_in (nI a) n := i_in (by rw [nI_toInt (by omega)]; omega) (by rw [nI_toInt (by omega)]; omega)
theorem E_rd {r n a : Nat} {f : Nat → Int32} {i v : Int32} (hd : decode k.2.1 pc = .ok (.iaload, 1)) (hm : mem[r]? = some (g_a 0 n f)) (hi : i = nI a) (ha : a < n) (hn : n ≤ 100) (hv : f a = v) (kk : E G k R ce sl mem (pc + 1) loc (.int v :: st)) : E G k R ce sl mem pc loc (.int i :: .ref r :: st) := by
  subst hi
  refine E_iald hd hm (vI ha hn) ?_
  rw [nI_clamp (by omega), hv]
  exact kk
theorem E_wr {r n a : Nat} {f : Nat → Int32} {i x : Int32} (hd : decode k.2.1 pc = .ok (.iastore, 1)) (hm : mem[r]? = some (g_a 0 n f)) (hi : i = nI a) (ha : a < n) (hn : n ≤ 100) (kk : E G k R ce sl (mem.set r (g_a 0 n (upd f a x))) (pc + 1) loc st) : E G k R ce sl mem pc loc (.int x :: .int i :: .ref r :: st) := by
  subst hi
  refine E_iast hd hm (vI ha hn) ?_
  rw [nI_clamp (by omega)]
  exact kk
theorem E_eqi {x y : Int32} (h : x = y) (kk : E G k R ce sl mem pc loc (.int y :: st)) : E G k R ce sl mem pc loc (.int x :: st) := by
  rw [h]
  exact kk
theorem E_gen (P : xM → Prop) (hP : P mem) (kk : ∀ m, P m → E G k R ce sl m pc loc st) : E G k R ce sl mem pc loc st := kk mem hP
theorem ix0 (w : Nat) : (6 : Int32) * nI w = nI (6 * w) := (Int32.ofNat_mul 6 w).symm
theorem ix (w j : Nat) : (6 : Int32) * nI w + nI j = nI (6 * w + j) := by
  rw [ix0]
  exact nI_add _ _
/-- the cells of c and t; the others stay, and new ones may come -/
def La (mem : xM) (rc rt : Nat) (c t : Nat → Int32) : Prop := mem[rc]? = some (g_a 0 36 c) ∧ mem[rt]? = some (g_a 0 7 t)
def Fr (rc rt : Nat) (mem m : xM) : Prop := mem.length ≤ m.length ∧ ∀ i, i < mem.length → i ≠ rc → i ≠ rt → m[i]? = mem[i]?
variable {rc rt i : Nat} {c t c' t' : Nat → Int32} {x : va_E}
theorem Fr.rf : Fr rc rt mem mem := ⟨Nat.le_refl _, fun _ _ _ _ => rfl⟩
theorem Fr.tr (h : Fr rc rt mem m') (h2 : Fr rc rt m' m'') : Fr rc rt mem m'' := ⟨Nat.le_trans h.1 h2.1, fun i h1 ha hb => (h2.2 i (Nat.lt_of_lt_of_le h1 h.1) ha hb).trans (h.2 i h1 ha hb)⟩
theorem Fr.setc : Fr rc rt mem (mem.set rc x) := ⟨by rw [List.length_set]; exact Nat.le_refl _, fun i _ ha _ => List.getElem?_set_ne (Ne.symm ha)⟩
theorem Fr.sett : Fr rc rt mem (mem.set rt x) := ⟨by rw [List.length_set]; exact Nat.le_refl _, fun i _ _ hb => List.getElem?_set_ne (Ne.symm hb)⟩
theorem Fr.app {xs : xM} : Fr rc rt mem (mem ++ xs) := ⟨by rw [List.length_append]; omega, fun i h _ _ => List.getElem?_append_left h⟩
theorem Fr.get (h : Fr rc rt mem m') (hg : mem[i]? = some x) (h1 : i ≠ rc) (h2 : i ≠ rt) : m'[i]? = some x := (h.2 i (List.getElem?_eq_some_iff.mp hg).1 h1 h2).trans hg
theorem La.setc (h : La mem rc rt c t) (hne : rc ≠ rt) : La (mem.set rc (g_a 0 36 c')) rc rt c' t := ⟨x_get_same h.1, x_get_set h.2 hne⟩
theorem La.sett (h : La mem rc rt c t) (hne : rc ≠ rt) : La (mem.set rt (g_a 0 7 t')) rc rt c t' := ⟨x_get_set h.1 (Ne.symm hne), x_get_same h.2⟩
theorem La.fr {r2 s2 : Nat} (h : La mem rc rt c t) (hf : Fr r2 s2 mem m') (h1 : rc ≠ r2) (h2 : rc ≠ s2) (h3 : rt ≠ r2) (h4 : rt ≠ s2) : La m' rc rt c t := ⟨hf.get h.1 h1 h2, hf.get h.2 h3 h4⟩
end L0
/-! the class's carpets and landings in the law's rows -/
def Rd (S : gS) (d : Nat → Int32) : Prop := d 60 = -1 ∧ ∀ s, s < 60 → (g_le S s = -6 ∧ d s = -1) ∨ ∃ l : Nat, l < s ∧ g_le S s = nI l ∧ d s = nI l
def Ry (S : gS) (l : Nat → Int32) : Prop := l 60 = 0 ∧ ∀ s, s < 60 → l s = g_la S s ∧ (g_la S s = 0 ∨ g_la S s = 1)
/-- the law's rows of climbers and totals; lf lifts are not counted yet where m lifts, nor ro rolls -/
def Rct (S : gS) (c t : Nat → Int32) (m : Nat) (lf ro : Int32) : Prop :=
  (∀ i, i < 6 → c (6 * i) = g_pl S i) ∧ (∀ i, i < 6 → c (6 * i + 1) = g_tp S i) ∧ (∀ i, i < 6 → c (6 * i + 2) = g_rs S i) ∧ (∀ i, i < 6 → c (6 * i + 3) = g_tl S i) ∧ (∀ i, i < 6 → c (6 * i + 4) + (if i = m then lf else 0) = g_lm S i) ∧ (∀ i, i < 6 → c (6 * i + 5) = g_sl S i) ∧ t 0 = g_top S ∧ t 1 = g_cl S ∧ t 2 = g_mv S ∧ t 3 + ro = g_ro S ∧ t 4 + lf = sSm (g_tl S) 6 ∧ t 5 = sSm (g_sl S) 6 ∧ t 6 = g_lo S
section L1
variable {S : gS} {c t c' t' d l : Nat → Int32} {m : Nat} {lf ro : Int32}
theorem Rct.pl (h : Rct S c t m lf ro) : ∀ i, i < 6 → c (6 * i) = g_pl S i := h.1
theorem Rct.tp (h : Rct S c t m lf ro) : ∀ i, i < 6 → c (6 * i + 1) = g_tp S i := h.2.1
theorem Rct.rs (h : Rct S c t m lf ro) : ∀ i, i < 6 → c (6 * i + 2) = g_rs S i := h.2.2.1
theorem Rct.tl (h : Rct S c t m lf ro) : ∀ i, i < 6 → c (6 * i + 3) = g_tl S i := h.2.2.2.1
theorem Rct.lm (h : Rct S c t m lf ro) : ∀ i, i < 6 → c (6 * i + 4) + (if i = m then lf else 0) = g_lm S i := h.2.2.2.2.1
theorem Rct.sl (h : Rct S c t m lf ro) : ∀ i, i < 6 → c (6 * i + 5) = g_sl S i := h.2.2.2.2.2.1
theorem Rct.t0 (h : Rct S c t m lf ro) : t 0 = g_top S := h.2.2.2.2.2.2.1
theorem Rct.t1 (h : Rct S c t m lf ro) : t 1 = g_cl S := h.2.2.2.2.2.2.2.1
theorem Rct.t2 (h : Rct S c t m lf ro) : t 2 = g_mv S := h.2.2.2.2.2.2.2.2.1
theorem Rct.t3 (h : Rct S c t m lf ro) : t 3 + ro = g_ro S := h.2.2.2.2.2.2.2.2.2.1
theorem Rct.t4 (h : Rct S c t m lf ro) : t 4 + lf = sSm (g_tl S) 6 := h.2.2.2.2.2.2.2.2.2.2.1
theorem Rct.t5 (h : Rct S c t m lf ro) : t 5 = sSm (g_sl S) 6 := h.2.2.2.2.2.2.2.2.2.2.2.1
theorem Rct.t6 (h : Rct S c t m lf ro) : t 6 = g_lo S := h.2.2.2.2.2.2.2.2.2.2.2.2
end L1
/-! pure methods of the law -/
section L2
variable {G : xG} {mem : xM} {rc rt ra rb n w N : Nat} {c t f f2 : Nat → Int32}
def sLow (v n : Int32) : Int32 := (v &&& 2147483647) - (v &&& 2147483647) / n * n
theorem y_low (v n : Int32) (hn : ¬ n = 0) : Dt G kL_low [.int v, .int n] mem (some (.int (sLow v n))) mem := by
  refine Ct_of (by decide) (Nat.le_of_ble_eq_true rfl) ?_
  refine E_iload_n dL_low_0 (by rfl) ?_
  refine E_ldc dL_low_1 rfl wq_L_9 ?_
  refine E_iand dL_low_3 ?_
  refine E_iload_n dL_low_4 (by rfl) ?_
  refine E_irem dL_low_5 hn ?_
  refine E_iret dL_low_6 rfl rfl (Nat.zero_le _) (Nat.zero_le _) ?_
  exact x_leaf rfl
theorem low_nn (v : Int32) : 0 ≤ (v &&& 2147483647).toInt := by
  have h : (v &&& 2147483647).toBitVec.msb = false := by
    rw [Int32.toBitVec_and, BitVec.msb_and, show (2147483647 : Int32).toBitVec.msb = false by decide, Bool.and_false]
  show 0 ≤ (v &&& 2147483647).toBitVec.toInt
  rw [BitVec.toInt_eq_toNat_of_msb h]
  exact Int.natCast_nonneg _
theorem sLow_rng (v : Int32) {n : Int32} (hn : 0 < n.toInt) : 0 ≤ (sLow v n).toInt ∧ (sLow v n).toInt < n.toInt := by
  have h0 := low_nn v
  unfold sLow
  generalize v &&& 2147483647 = x at h0
  have rx := i_rng x
  have rn := i_rng n
  have e1 : (x / n).toInt = x.toInt / n.toInt := by
    rw [Int32.toInt_div, Int.tdiv_eq_ediv_of_nonneg h0]
    have q1 : 0 ≤ x.toInt / n.toInt := Int.ediv_nonneg h0 (by omega)
    have q2 : x.toInt / n.toInt ≤ x.toInt := Int.ediv_le_self _ h0
    exact Int.bmod_eq_of_le (by omega) (by omega)
  have q3 := Int.mul_ediv_add_emod x.toInt n.toInt
  have q4 := Int.emod_nonneg x.toInt (show n.toInt ≠ 0 by omega)
  have q5 := Int.emod_lt_of_pos x.toInt hn
  have q6 : 0 ≤ x.toInt / n.toInt := Int.ediv_nonneg h0 (by omega)
  have q7 : 0 ≤ n.toInt * (x.toInt / n.toInt) := Int.mul_nonneg (by omega) q6
  rw [Int.mul_comm] at q3 q7
  have e2 : (x / n * n).toInt = x.toInt / n.toInt * n.toInt := by
    rw [i_mul (by rw [e1]; omega) (by rw [e1]; omega), e1]
  rw [i_sub (by rw [e2]; omega) (by rw [e2]; omega), e2]
  omega
theorem y_low_nI {v : Int32} {n : Nat} (h1 : 0 < n) (h2 : n < 1000) : ∃ a, a < n ∧ sLow v (nI n) = nI a := by
  have e : (nI n).toInt = (n : Int) := nI_toInt (by omega)
  have r := sLow_rng v (n := nI n) (by omega)
  refine ⟨(sLow v (nI n)).toNatClampNeg, ?_, i_nI r.1⟩
  have := i_cl r.1
  omega
theorem y_progress (h : La mem rc rt c t) (hw : w < 6) : Dt G kL_progress [.ref rc, .ref rt, .int (nI w)] mem (some (.int (c (6 * w + 1) * t 0 + c (6 * w)))) mem := by
  obtain ⟨h1, h2⟩ := h
  refine Ct_of (by decide) (Nat.le_of_ble_eq_true rfl) ?_
  refine E_aload_n dL_progress_0 (by rfl) ?_
  refine E_bipush (v := 6) dL_progress_1 (by decide) ?_
  refine E_iload_n dL_progress_3 (by rfl) ?_
  refine E_imul dL_progress_4 ?_
  refine E_iconst (v := 1) dL_progress_5 (by decide) ?_
  refine E_iadd dL_progress_6 ?_
  refine E_rd dL_progress_7 (by assumption) (ix w 1) (by omega) (by first | decide | omega) rfl ?_
  refine E_aload_n dL_progress_8 (by rfl) ?_
  refine E_iconst (v := 0) dL_progress_9 (by decide) ?_
  refine E_rd dL_progress_10 (by assumption) (show (0 : Int32) = nI 0 from rfl) (by omega) (by first | decide | omega) rfl ?_
  refine E_imul dL_progress_11 ?_
  refine E_aload_n dL_progress_12 (by rfl) ?_
  refine E_bipush (v := 6) dL_progress_13 (by decide) ?_
  refine E_iload_n dL_progress_15 (by rfl) ?_
  refine E_imul dL_progress_16 ?_
  refine E_rd dL_progress_17 (by assumption) (ix0 w) (by omega) (by first | decide | omega) rfl ?_
  refine E_iadd dL_progress_18 ?_
  refine E_iret dL_progress_19 rfl rfl (Nat.zero_le _) (Nat.zero_le _) ?_
  exact x_leaf rfl
theorem y_tops (h : La mem rc rt c t) (hn : n ≤ 6) (ht : t 1 = nI n) : Dt G kL_tops [.ref rc, .ref rt] mem (some (.int (sSm (fun i => c (6 * i + 1)) n))) mem := by
  obtain ⟨h1, h2⟩ := h
  have en : (nI n).toInt = (n : Int) := nI_toInt (by omega)
  refine Ct_of (by decide) (Nat.le_of_ble_eq_true rfl) ?_
  have loop : ∀ di i : Nat, n < i + di → i ≤ n → E G kL_tops (x_R (some (.int (sSm (fun i => c (6 * i + 1)) n))) mem) 0 0 (mem) 4 (x_L [(0, .ref rc), (1, .ref rt), (2, .int (sSm (fun i => c (6 * i + 1)) i)), (3, .int (nI i))]) [] := by
    intro di
    induction di with
    | zero => intro i hi1 hi2; exact absurd hi1 (by omega)
    | succ di ihi =>
      intro i hi1 hi2
      have ei : (nI i).toInt = (i : Int) := nI_toInt (by omega)
      have eci : (nI i).toNatClampNeg = i := nI_clamp (by omega)
      refine E_iload_n dL_tops_4 (by rfl) ?_
      refine E_aload_n dL_tops_5 (by rfl) ?_
      refine E_iconst (v := 1) dL_tops_6 (by decide) ?_
      refine E_rd dL_tops_7 (by assumption) (show (1 : Int32) = nI 1 from rfl) (by omega) (by first | decide | omega) ht ?_
      refine E_icmp_ge (n := _) rfl (tgt := 28) dL_tops_8 (by decide) (fun q8 => ?_) (fun q8 => ?_)
      · refine E_iload_n dL_tops_28 (by rfl) ?_
        refine E_iret dL_tops_29 rfl rfl (Nat.zero_le _) (Nat.zero_le _) ?_
        exact x_leaf (by rw [show i = n by omega])
      · refine E_iload_n dL_tops_11 (by rfl) ?_
        refine E_aload_n dL_tops_12 (by rfl) ?_
        refine E_bipush (v := 6) dL_tops_13 (by decide) ?_
        refine E_iload_n dL_tops_15 (by rfl) ?_
        refine E_imul dL_tops_16 ?_
        refine E_iconst (v := 1) dL_tops_17 (by decide) ?_
        refine E_iadd dL_tops_18 ?_
        refine E_rd dL_tops_19 (by assumption) (ix i 1) (by omega) (by first | decide | omega) rfl ?_
        refine E_iadd dL_tops_20 ?_
        refine E_istore_n dL_tops_21 (Nat.le_of_ble_eq_true rfl) (by rfl) ?_
        refine E_iinc (d := 1) dL_tops_22 (by rfl) (by decide) (Nat.le_of_ble_eq_true rfl) (by rfl) ?_
        refine E_goto (tgt := 4) dL_tops_25 (by decide) ?_
        exact E_loc [(0, .ref rc), (1, .ref rt), (2, .int (sSm (fun i => c (6 * i + 1)) (i + 1))), (3, .int (nI (i + 1)))] ⟨rfl, rfl, x_i (by simp only [sSm]), x_i (by first | exact nI_1 _ | decide), trivial⟩ (ihi (i + 1) (by omega) (by omega))
  refine E_iconst (v := 0) dL_tops_0 (by decide) ?_
  refine E_istore_n dL_tops_1 (Nat.le_of_ble_eq_true rfl) (by rfl) ?_
  refine E_iconst (v := 0) dL_tops_2 (by decide) ?_
  refine E_istore_n dL_tops_3 (Nat.le_of_ble_eq_true rfl) (by rfl) ?_
  exact E_loc [(0, .ref rc), (1, .ref rt), (2, .int (sSm (fun i => c (6 * i + 1)) 0)), (3, .int (nI 0))] ⟨rfl, rfl, x_i (by rfl), x_i (by first | rfl | decide), trivial⟩ (loop (n + 1) 0 (by omega) (by omega))
def fCp (f f2 : Nat → Int32) (i : Nat) : Nat → Int32 := fun j => if j < i then f j else f2 j
theorem fCp_0 : fCp f f2 0 = f2 := by
  funext j
  unfold fCp
  rw [if_neg (by omega)]
theorem fCp_step (i : Nat) : upd (fCp f f2 i) i (f i) = fCp f f2 (i + 1) := by
  funext j
  show (if j = i then f i else if j < i then f j else f2 j) = if j < i + 1 then f j else f2 j
  by_cases h : j = i
  · subst h; rw [if_pos rfl, if_pos (by omega)]
  · rw [if_neg h]
    by_cases h2 : j < i
    · rw [if_pos h2, if_pos (by omega)]
    · rw [if_neg h2, if_neg (by omega)]
theorem y_copy (h1 : mem[ra]? = some (g_a 0 N f)) (h2 : mem[rb]? = some (g_a 0 N f2)) (hne : ra ≠ rb) (hN : N ≤ 100) : Dt G kL_copy [.ref ra, .ref rb] mem none (mem.set rb (g_a 0 N (fCp f f2 N))) := by
  have eN : (Int32.ofNat N).toInt = (N : Int) := nI_toInt (by omega)
  refine Ct_of (by decide) (Nat.le_of_ble_eq_true rfl) ?_
  have loop : ∀ di i : Nat, N < i + di → i ≤ N → E G kL_copy (x_R (none) (mem.set rb (g_a 0 N (fCp f f2 N)))) 0 0 ((mem.set rb (g_a 0 N (fCp f f2 i)))) 2 (x_L [(0, .ref ra), (1, .ref rb), (2, .int (nI i))]) [] := by
    intro di
    induction di with
    | zero => intro i hi1 hi2; exact absurd hi1 (by omega)
    | succ di ihi =>
      intro i hi1 hi2
      have ei : (nI i).toInt = (i : Int) := nI_toInt (by omega)
      have eci : (nI i).toNatClampNeg = i := nI_clamp (by omega)
      have l1 : (mem.set rb (g_a 0 N (fCp f f2 i)))[ra]? = some (g_a 0 N f) := x_get_set h1 (Ne.symm hne)
      have l2 : (mem.set rb (g_a 0 N (fCp f f2 i)))[rb]? = some (g_a 0 N (fCp f f2 i)) := x_get_same h2
      refine E_iload_n dL_copy_2 (by rfl) ?_
      refine E_aload_n dL_copy_3 (by rfl) ?_
      refine E_alen dL_copy_4 (by assumption) rfl rfl ?_
      refine E_icmp_ge (n := _) rfl (tgt := 20) dL_copy_5 (by decide) (fun q5 => ?_) (fun q5 => ?_)
      · refine E_vret dL_copy_20 rfl (Nat.zero_le _) (Nat.zero_le _) ?_
        exact ⟨rfl, by rw [show i = N by omega]⟩
      · refine E_aload_n dL_copy_8 (by rfl) ?_
        refine E_iload_n dL_copy_9 (by rfl) ?_
        refine E_aload_n dL_copy_10 (by rfl) ?_
        refine E_iload_n dL_copy_11 (by rfl) ?_
        refine E_rd dL_copy_12 (by assumption) rfl (by omega) (by first | decide | omega) rfl ?_
        refine E_wr dL_copy_13 (by assumption) rfl (by omega) (by first | decide | omega) ?_
        refine E_iinc (d := 1) dL_copy_14 (by rfl) (by decide) (Nat.le_of_ble_eq_true rfl) (by rfl) ?_
        refine E_goto (tgt := 2) dL_copy_17 (by decide) ?_
        refine E_mem (mem' := mem.set rb (g_a 0 N (fCp f f2 (i + 1)))) (by rw [List.set_set, fCp_step]) ?_
        exact E_loc [(0, .ref ra), (1, .ref rb), (2, .int (nI (i + 1)))] ⟨rfl, rfl, x_i (by first | exact nI_1 _ | decide), trivial⟩ (ihi (i + 1) (by omega) (by omega))
  refine E_iconst (v := 0) dL_copy_0 (by decide) ?_
  refine E_istore_n dL_copy_1 (Nat.le_of_ble_eq_true rfl) (by rfl) ?_
  refine E_mem (mem' := mem.set rb (g_a 0 N (fCp f f2 0))) (by rw [fCp_0]; exact (x_set_self h2).symm) ?_
  exact E_loc [(0, .ref ra), (1, .ref rb), (2, .int (nI 0))] ⟨rfl, rfl, rfl, trivial⟩ (loop (N + 1) 0 (by omega) (by omega))
theorem y_sum (h1 : mem[ra]? = some (g_a 0 61 f)) : Dt G kL_sum [.ref ra] mem (some (.int (sCn (fun s => 0 < (f s).toInt) 61))) mem := by
  have e61 : (Int32.ofNat 61).toInt = 61 := by decide
  refine Ct_of (by decide) (Nat.le_of_ble_eq_true rfl) ?_
  have loop : ∀ di i : Nat, 61 < i + di → i ≤ 61 → E G kL_sum (x_R (some (.int (sCn (fun s => 0 < (f s).toInt) 61))) mem) 0 0 (mem) 4 (x_L [(0, .ref ra), (1, .int (sCn (fun s => 0 < (f s).toInt) i)), (2, .int (nI i))]) [] := by
    intro di
    induction di with
    | zero => intro i hi1 hi2; exact absurd hi1 (by omega)
    | succ di ihi =>
      intro i hi1 hi2
      have ei : (nI i).toInt = (i : Int) := nI_toInt (by omega)
      have eci : (nI i).toNatClampNeg = i := nI_clamp (by omega)
      refine E_iload_n dL_sum_4 (by rfl) ?_
      refine E_aload_n dL_sum_5 (by rfl) ?_
      refine E_alen dL_sum_6 (by assumption) rfl rfl ?_
      refine E_icmp_ge (n := _) rfl (tgt := 30) dL_sum_7 (by decide) (fun q7 => ?_) (fun q7 => ?_)
      · refine E_iload_n dL_sum_30 (by rfl) ?_
        refine E_iret dL_sum_31 rfl rfl (Nat.zero_le _) (Nat.zero_le _) ?_
        exact x_leaf (by rw [show i = 61 by omega])
      · refine E_iload_n dL_sum_10 (by rfl) ?_
        refine E_aload_n dL_sum_11 (by rfl) ?_
        refine E_iload_n dL_sum_12 (by rfl) ?_
        refine E_rd dL_sum_13 (by assumption) rfl (by omega) (by first | decide | omega) rfl ?_
        refine E_if_le (tgt := 21) dL_sum_14 (by decide) (fun q14 => ?_) (fun q14 => ?_)
        · refine E_iconst (v := 0) dL_sum_21 (by decide) ?_
          refine E_iadd dL_sum_22 ?_
          refine E_istore_n dL_sum_23 (Nat.le_of_ble_eq_true rfl) (by rfl) ?_
          refine E_iinc (d := 1) dL_sum_24 (by rfl) (by decide) (Nat.le_of_ble_eq_true rfl) (by rfl) ?_
          refine E_goto (tgt := 4) dL_sum_27 (by decide) ?_
          exact E_loc [(0, .ref ra), (1, .int (sCn (fun s => 0 < (f s).toInt) (i + 1))), (2, .int (nI (i + 1)))] ⟨rfl, x_i (by simp only [sCn]; first | rw [if_neg (by omega), Int32.add_zero] | rw [if_pos (by omega)]), x_i (by first | exact nI_1 _ | decide), trivial⟩ (ihi (i + 1) (by omega) (by omega))
        · refine E_iconst (v := 1) dL_sum_17 (by decide) ?_
          refine E_goto (tgt := 22) dL_sum_18 (by decide) ?_
          refine E_iadd dL_sum_22 ?_
          refine E_istore_n dL_sum_23 (Nat.le_of_ble_eq_true rfl) (by rfl) ?_
          refine E_iinc (d := 1) dL_sum_24 (by rfl) (by decide) (Nat.le_of_ble_eq_true rfl) (by rfl) ?_
          refine E_goto (tgt := 4) dL_sum_27 (by decide) ?_
          exact E_loc [(0, .ref ra), (1, .int (sCn (fun s => 0 < (f s).toInt) (i + 1))), (2, .int (nI (i + 1)))] ⟨rfl, x_i (by simp only [sCn]; first | rw [if_neg (by omega), Int32.add_zero] | rw [if_pos (by omega)]), x_i (by first | exact nI_1 _ | decide), trivial⟩ (ihi (i + 1) (by omega) (by omega))
  refine E_iconst (v := 0) dL_sum_0 (by decide) ?_
  refine E_istore_n dL_sum_1 (Nat.le_of_ble_eq_true rfl) (by rfl) ?_
  refine E_iconst (v := 0) dL_sum_2 (by decide) ?_
  refine E_istore_n dL_sum_3 (Nat.le_of_ble_eq_true rfl) (by rfl) ?_
  exact E_loc [(0, .ref ra), (1, .int (sCn (fun s => 0 < (f s).toInt) 0)), (2, .int (nI 0))] ⟨rfl, x_i (by rfl), x_i (by first | rfl | decide), trivial⟩ (loop (61 + 1) 0 (by omega) (by omega))
def sCell (G : xG) (e : Nat) : Int32 := if e < G.2.2.2.2.2.1 then G.2.2.2.2.2.2 e else 32452867 * nI e + 15485863
theorem y_cell {L e : Nat} (hL : G.2.2.2.2.2.1 = L) (hL2 : L ≤ 260) (he : e < 1000) : Dt G kL_cell [.float 0, .int (nI e)] mem (some (.int (sCell G e))) mem := by
  have e1 : (nI e).toInt = (e : Int) := nI_toInt (by omega)
  have e2 : (Int32.ofNat G.2.2.2.2.2.1).toInt = (L : Int) := by rw [hL]; exact nI_toInt (by omega)
  have ec : (nI e).toNatClampNeg = e := nI_clamp (by omega)
  unfold sCell
  refine Ct_of (by decide) (Nat.le_of_ble_eq_true rfl) ?_
  refine E_iload_n dL_cell_0 (by rfl) ?_
  refine E_sload_n dL_cell_1 (by rfl) ?_
  refine E_slen dL_cell_2 rfl ?_
  refine E_icmp_ge (n := _) rfl (tgt := 12) dL_cell_3 (by decide) (fun q3 => ?_) (fun q3 => ?_)
  · refine E_ldc dL_cell_12 rfl wq_L_7 ?_
    refine E_iload_n dL_cell_14 (by rfl) ?_
    refine E_imul dL_cell_15 ?_
    refine E_ldc dL_cell_16 rfl wq_L_8 ?_
    refine E_iadd dL_cell_18 ?_
    refine E_iret dL_cell_19 rfl rfl (Nat.zero_le _) (Nat.zero_le _) ?_
    exact x_leaf (by rw [if_neg (by omega)])
  · refine E_sload_n dL_cell_6 (by rfl) ?_
    refine E_iload_n dL_cell_7 (by rfl) ?_
    refine E_sld dL_cell_8  (i_in (by omega) (by rw [hL]; omega)) ?_
    refine E_goto (tgt := 19) dL_cell_9 (by decide) ?_
    refine E_iret dL_cell_19 rfl rfl (Nat.zero_le _) (Nat.zero_le _) ?_
    exact x_leaf (by rw [ec, if_pos (by omega)])
end L2
