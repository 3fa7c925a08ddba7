/-! the law: what the rolls would bring -/
section AH
variable {G : xG} {mem mm M : xM} {T n m u k r1 r2 : Nat} {c t d l c3 t3 : Nat → Int32} {S : gS} {C : cS} {R : Option Value → xM → Prop} {ce sl : Nat} {best most quiet lf : Int32} {x : Nat → Int32}
def sQp (p : Nat → Prop) [DecidablePred p] : Nat → Int32
  | 0 => 0
  | k + 1 => sQp p k + (if p (k + 1) then 1 <<< (nI (k + 1) &&& 31) else 0)
theorem or_128 : ∀ n, n < 7 → ∀ a, a < 128 → (nI a ||| ((1 : Int32) <<< (nI n &&& 31))) = nI (a ||| 2 ^ n) := by decide
theorem or_pl7 : ∀ n, n < 7 → ∀ a, a < 128 → a < 2 ^ n → a ||| 2 ^ n = a + 2 ^ n := by decide
theorem p2_128 : ∀ n, n < 7 → 2 ^ n < 128 ∧ 2 ^ (n + 1) = 2 ^ n + 2 ^ n ∧ 2 ^ (n + 1) ≤ 128 := by decide
theorem sQu_pl (p : Nat → Prop) [DecidablePred p] : ∀ k, k ≤ 6 → ∃ a, a < 2 ^ (k + 1) ∧ sQu p k = nI a ∧ sQp p k = nI a
  | 0, _ => ⟨0, by decide, rfl, rfl⟩
  | k + 1, h => by
    obtain ⟨a, h1, h2, h3⟩ := sQu_pl p k (by omega)
    have q := p2_128 (k + 1) (by omega)
    rw [sQu, sQp, h2, h3]
    by_cases e : p (k + 1)
    · refine ⟨a + 2 ^ (k + 1), by omega, ?_, ?_⟩
      · rw [if_pos e, or_128 (k + 1) (by omega) a (by omega), or_pl7 (k + 1) (by omega) a (by omega) h1]
      · rw [if_pos e, sh_pl (k + 1) (by omega), nI_add]
    · exact ⟨a, by omega, by rw [if_neg e], by rw [if_neg e, Int32.add_zero]⟩
theorem quiet_eq (p : Nat → Prop) [DecidablePred p] : sQu p 6 = sQp p 6 := by
  obtain ⟨a, _, h2, h3⟩ := sQu_pl p 6 (Nat.le_refl _)
  rw [h2, h3]
abbrev cTr (C : cS) (X : gS) : cS := (C.1, C.2.1, X, C.2.2.2)
def AhM (mem : xM) (C : cS) (S : gS) (d l c t : Nat → Int32) : Prop := (∃ X, cAt mem (cTr C X)) ∧ Lw mem S d l c t ∧ 90 ≤ mem.length
theorem Lw.fr (h : Lw mem S d l c t) (hf : Fr r1 r2 mem mm) (h1 : 90 ≤ r1) (h2 : 90 ≤ r2) : Lw mm S d l c t := ⟨hf.get h.1 (by omega) (by omega), hf.get h.2.1 (by omega) (by omega), ⟨hf.get h.2.2.1.1 (by omega) (by omega), hf.get h.2.2.1.2 (by omega) (by omega)⟩, h.2.2.2⟩
theorem AhM.fr (h : AhM mem C S d l c t) (hf : Fr r1 r2 mem mm) (h1 : 90 ≤ r1) (h2 : 90 ≤ r2) : AhM mm C S d l c t := by
  obtain ⟨⟨X, a1⟩, a2, a3⟩ := h
  exact ⟨⟨X, cAt_fr a1 hf (by omega) (by omega)⟩, a2.fr hf h1 h2, Nat.le_trans a3 hf.1⟩
theorem Rct_congr (h : Rct S c t m 0 0) (e1 : ∀ i, i < 36 → c3 i = c i) (e2 : ∀ i, i < 7 → t3 i = t i) : Rct S c3 t3 m 0 0 := by
  refine ⟨fun i hi => (e1 _ (by omega)).trans (h.pl i hi), fun i hi => (e1 _ (by omega)).trans (h.tp i hi), fun i hi => (e1 _ (by omega)).trans (h.rs i hi), fun i hi => (e1 _ (by omega)).trans (h.tl i hi), fun i hi => ?_, fun i hi => (e1 _ (by omega)).trans (h.sl i hi), (e2 _ (by decide)).trans h.t0, (e2 _ (by decide)).trans h.t1, (e2 _ (by decide)).trans h.t2, ?_, ?_, (e2 _ (by decide)).trans h.t5, (e2 _ (by decide)).trans h.t6⟩
  · rw [e1 _ (by omega)]; exact h.lm i hi
  · rw [e2 _ (by decide)]; exact h.t3
  · rw [e2 _ (by decide)]; exact h.t4
abbrev aL8 (best most quiet : Int32) (u : Nat) : List (Nat × Value) := [(0, .ref 0), (1, .ref 86), (2, .ref 87), (3, .ref 88), (4, .ref 89), (5, .int best), (6, .int most), (7, .int quiet), (8, .int (nI u))]
abbrev aL10 (best most quiet : Int32) (u r1 r2 : Nat) : List (Nat × Value) := [(0, .ref 0), (1, .ref 86), (2, .ref 87), (3, .ref 88), (4, .ref 89), (5, .int best), (6, .int most), (7, .int quiet), (8, .int (nI u)), (9, .ref r1), (10, .ref r2)]
abbrev aL11 (best most quiet : Int32) (u r1 r2 : Nat) (lf : Int32) : List (Nat × Value) := [(0, .ref 0), (1, .ref 86), (2, .ref 87), (3, .ref 88), (4, .ref 89), (5, .int best), (6, .int most), (7, .int quiet), (8, .int (nI u)), (9, .ref r1), (10, .ref r2), (11, .int lf)]
abbrev aL12 (best most quiet : Int32) (u r1 r2 : Nat) (lf gr : Int32) : List (Nat × Value) := [(0, .ref 0), (1, .ref 86), (2, .ref 87), (3, .ref 88), (4, .ref 89), (5, .int best), (6, .int most), (7, .int quiet), (8, .int (nI u)), (9, .ref r1), (10, .ref r2), (11, .int lf), (12, .int gr)]
/-- the copies, and the roll on them -/
theorem y_ah1 (hA : AhM mem C S d l c t) (hI : Iv S T n m) (hm : m < n) (hu : 1 ≤ u ∧ u ≤ 6) (hcs : ce + 3 ≤ 18 ∧ sl + 49 ≤ 294) (kk : ∀ mm r1 r2 c3 t3, AhM mm C S d l c t → 90 ≤ r1 → 90 ≤ r2 → r1 ≠ r2 → La mm r1 r2 c3 t3 → Rct (gRoll S (nI u) n) c3 t3 m 0 0 → E G kL_ahead R (ce + 3) (sl + 49) mm 57 (x_L (aL11 best most quiet u r1 r2 (nI (cN (rPs S u) n)))) []) : E G kL_ahead R ce sl mem 19 (x_L (aL8 best most quiet u)) [] := by
  obtain ⟨⟨X, hC⟩, hL, h90⟩ := id hA
  obtain ⟨b1, b2, ⟨b3, b4⟩, hd, hl, hR⟩ := id hL
  obtain ⟨r1, hr1⟩ : ∃ r1, r1 = mem.length := ⟨_, rfl⟩
  obtain ⟨A, hAe⟩ : ∃ A, A = mem ++ [g_a 0 36 (fun _ => 0)] := ⟨_, rfl⟩
  have hAl : A.length = r1 + 1 := by rw [hAe, List.length_append, hr1]; rfl
  obtain ⟨M, hM⟩ : ∃ M, M = A ++ [g_a 0 7 (fun _ => 0)] := ⟨_, rfl⟩
  have M1 : M[r1]? = some (g_a 0 36 (fun _ => 0)) := by rw [hM]; exact x_app_l (by rw [hAe, hr1]; exact x_app_n)
  have M2 : M[r1 + 1]? = some (g_a 0 7 (fun _ => 0)) := by rw [hM, ← hAl]; exact x_app_n
  have FM : Fr r1 (r1 + 1) mem M := by rw [hM, hAe]; exact Fr.tr Fr.app Fr.app
  have c88 := FM.get b3 (by omega) (by omega)
  have c89 := FM.get b4 (by omega) (by omega)
  have cp1 := y_copy (G := G) c88 M1 (by omega) (by decide)
  have c89' := x_get_set (i := r1) (c := g_a 0 36 (fCp c (fun _ => 0) 36)) c89 (by omega)
  have M2' := x_get_set (i := r1) (c := g_a 0 36 (fCp c (fun _ => 0) 36)) M2 (by omega)
  have cp2 := y_copy (G := G) c89' M2' (by omega) (by decide)
  have L2 : La ((M.set r1 (g_a 0 36 (fCp c (fun _ => 0) 36))).set (r1 + 1) (g_a 0 7 (fCp t (fun _ => 0) 7))) r1 (r1 + 1) (fCp c (fun _ => 0) 36) (fCp t (fun _ => 0) 7) := ⟨x_get_set (x_get_same M1) (by omega), x_get_same M2'⟩
  have F2 : Fr r1 (r1 + 1) mem ((M.set r1 (g_a 0 36 (fCp c (fun _ => 0) 36))).set (r1 + 1) (g_a 0 7 (fCp t (fun _ => 0) 7))) := Fr.tr FM (Fr.tr Fr.setc Fr.sett)
  have R2 : Rct S (fCp c (fun _ => 0) 36) (fCp t (fun _ => 0) 7) m 0 0 := Rct_congr (hR.any m) (fun i hi => if_pos hi) (fun i hi => if_pos hi)
  have d86 := F2.get b1 (by omega) (by omega)
  have d87 := F2.get b2 (by omega) (by omega)
  have mid : E G kL_ahead R (ce + 1 + 1) (sl + 36 + 7) M 31 (x_L (aL10 best most quiet u r1 (r1 + 1))) [] := by
    refine E_aload_n dL_ahead_31 (by rfl) ?_
    refine E_aload dL_ahead_32 (by rfl) ?_
    refine cs_L_ahead_34 (Nat.le_of_ble_eq_true rfl) (show ce + 1 + 1 ≤ 18 ∧ sl + 36 + 7 ≤ 294 by omega) cp1 ?_
    refine E_aload dL_ahead_37 (by rfl) ?_
    refine E_aload dL_ahead_39 (by rfl) ?_
    refine cs_L_ahead_41 (Nat.le_of_ble_eq_true rfl) (show ce + 1 + 1 ≤ 18 ∧ sl + 36 + 7 ≤ 294 by omega) cp2 ?_
    refine E_aload_n dL_ahead_44 (by rfl) ?_
    refine E_aload_n dL_ahead_45 (by rfl) ?_
    refine E_aload dL_ahead_46 (by rfl) ?_
    refine E_aload dL_ahead_48 (by rfl) ?_
    refine E_iload dL_ahead_50 (by rfl) ?_
    refine cw_L_ahead_52 (show ce + 1 + 1 + 1 ≤ 18 ∧ sl + 36 + 7 + 6 ≤ 294 by omega) (Nat.le_of_ble_eq_true rfl) (y_roll (by omega) (by omega) (by omega) (by omega) (by omega) hI hm hd hl hu L2 d86 d87 R2) (fun m52 h52 => ?_)
    obtain ⟨c3, t3, g1, g2, g3⟩ := h52
    refine E_istore dL_ahead_55 (Nat.le_of_ble_eq_true rfl) (by rfl) ?_
    exact E_loc (aL11 best most quiet u r1 (r1 + 1) (nI (cN (rPs S u) n))) ⟨rfl, rfl, rfl, rfl, rfl, rfl, rfl, rfl, rfl, rfl, rfl, rfl, trivial⟩ (kk _ r1 (r1 + 1) c3 t3 (hA.fr (Fr.tr F2 g2) (by omega) (by omega)) (by omega) (by omega) (by omega) g1 g3)
  refine E_bipush (v := 36) dL_ahead_19 (by decide) ?_
  refine E_newi (N := 36) dL_ahead_21 wa_int (by decide) (by decide) (by decide) (show ce + 1 ≤ 18 by omega) (show sl + 36 ≤ 294 by omega) ?_
  rw [← hr1]
  refine E_mem (mem' := A) hAe.symm ?_
  refine E_astore dL_ahead_23 (Nat.le_of_ble_eq_true rfl) (by rfl) ?_
  refine E_bipush (v := 7) dL_ahead_25 (by decide) ?_
  refine E_newi (N := 7) dL_ahead_27 wa_int (by decide) (by decide) (by decide) (show ce + 1 + 1 ≤ 18 by omega) (show sl + 36 + 7 ≤ 294 by omega) ?_
  rw [hAl]
  refine E_mem (mem' := M) hM.symm ?_
  refine E_astore dL_ahead_29 (Nat.le_of_ble_eq_true rfl) (by rfl) ?_
  exact E_loc (aL10 best most quiet u r1 (r1 + 1)) ⟨rfl, rfl, rfl, rfl, rfl, rfl, rfl, rfl, rfl, rfl, rfl, trivial⟩ mid
/-- the growth -/
theorem y_ah2 {m' : Nat} (hA : AhM mem C S d l c t) (hI : Iv S T n m) (hI2 : Iv (gRoll S (nI u) n) T n m') (hm : m < n) (hL3 : La mem r1 r2 c3 t3) (hR3 : Rct (gRoll S (nI u) n) c3 t3 m 0 0) (hcs : ce ≤ 18 ∧ sl ≤ 294) (kk : E G kL_ahead R ce sl mem 120 (x_L (aL12 best most quiet u r1 r2 lf (sGn S (gRoll S (nI u) n) n))) []) : E G kL_ahead R ce sl mem 57 (x_L (aL11 best most quiet u r1 r2 lf)) [] := by
  have n6 := hI.n6
  have en : (nI n).toInt = (n : Int) := nI_toInt (by omega)
  obtain ⟨⟨X, hC⟩, hL, h90⟩ := id hA
  obtain ⟨b1, b2, ⟨b3, b4⟩, hd, hl, hR⟩ := id hL
  have hLa := hL.2.2.1
  have ht1 : t 1 = nI n := hR.t1.trans hI.gc
  have ht2 : t 2 = g_mv S := hR.t2
  have loop : ∀ di i : Nat, n < i + di → i ≤ n → E G kL_ahead R ce sl (mem) 63 (x_L [(0, .ref 0), (1, .ref 86), (2, .ref 87), (3, .ref 88), (4, .ref 89), (5, .int best), (6, .int most), (7, .int quiet), (8, .int (nI u)), (9, .ref r1), (10, .ref r2), (11, .int lf), (12, .int (sGn S (gRoll S (nI u) n) i)), (13, .int (nI i))]) [] := by
    intro di
    induction di with
    | zero => intro i hi1 hi2; exact absurd hi1 (by omega)
    | succ di ihi =>
      intro i hi1 hi2
      have ei : (nI i).toInt = (i : Int) := nI_toInt (by omega)
      have eci : (nI i).toNatClampNeg = i := nI_clamp (by omega)
      refine E_iload dL_ahead_63 (by rfl) ?_
      refine E_aload dL_ahead_65 (by rfl) ?_
      refine E_iconst (v := 1) dL_ahead_67 (by decide) ?_
      refine E_rd dL_ahead_68 (by assumption) (show (1 : Int32) = nI 1 from rfl) (by omega) (by first | decide | omega) ht1 ?_
      refine E_icmp_ge (n := _) rfl (tgt := 120) dL_ahead_69 (by decide) (fun q69 => ?_) (fun q69 => ?_)
      · obtain rfl : i = n := by omega
        exact E_loc (aL12 best most quiet u r1 r2 lf (sGn S (gRoll S (nI u) i) i)) ⟨rfl, rfl, rfl, rfl, rfl, rfl, rfl, rfl, rfl, rfl, rfl, rfl, rfl, trivial⟩ kk
      · refine E_aload dL_ahead_72 (by rfl) ?_
        refine E_aload dL_ahead_74 (by rfl) ?_
        refine E_iload dL_ahead_76 (by rfl) ?_
        refine cs_L_ahead_78 (Nat.le_of_ble_eq_true rfl) hcs (y_prog hI2 hR3 hL3 (show i < n by omega)) ?_
        refine E_aload_n dL_ahead_81 (by rfl) ?_
        refine E_aload dL_ahead_82 (by rfl) ?_
        refine E_iload dL_ahead_84 (by rfl) ?_
        refine cs_L_ahead_86 (Nat.le_of_ble_eq_true rfl) hcs (y_prog hI hR hLa (show i < n by omega)) ?_
        refine E_isub dL_ahead_89 ?_
        refine E_istore dL_ahead_90 (Nat.le_of_ble_eq_true rfl) (by rfl) ?_
        refine E_iload dL_ahead_92 (by rfl) ?_
        refine E_iload dL_ahead_94 (by rfl) ?_
        refine E_aload dL_ahead_96 (by rfl) ?_
        refine E_iconst (v := 2) dL_ahead_98 (by decide) ?_
        refine E_rd dL_ahead_99 (by assumption) (show (2 : Int32) = nI 2 from rfl) (by omega) (by first | decide | omega) ht2 ?_
        refine E_icmp_ne (n := _) rfl (tgt := 108) dL_ahead_100 (by decide) (fun q100 => ?_) (fun q100 => ?_)
        · refine E_iload dL_ahead_108 (by rfl) ?_
          refine E_ineg dL_ahead_110 ?_
          refine E_iadd dL_ahead_111 ?_
          refine E_istore dL_ahead_112 (Nat.le_of_ble_eq_true rfl) (by rfl) ?_
          refine E_iinc (d := 1) dL_ahead_114 (by rfl) (by decide) (Nat.le_of_ble_eq_true rfl) (by rfl) ?_
          refine E_goto (tgt := 63) dL_ahead_117 (by decide) ?_
          exact E_loc [(0, .ref 0), (1, .ref 86), (2, .ref 87), (3, .ref 88), (4, .ref 89), (5, .int best), (6, .int most), (7, .int quiet), (8, .int (nI u)), (9, .ref r1), (10, .ref r2), (11, .int lf), (12, .int (sGn S (gRoll S (nI u) n) (i + 1))), (13, .int (nI (i + 1)))] ⟨rfl, rfl, rfl, rfl, rfl, rfl, rfl, rfl, rfl, rfl, rfl, rfl, x_i (by simp only [sGn]; first | rw [if_pos q100] | rw [if_neg q100]), x_i (by first | exact nI_1 _ | decide), trivial⟩ (ihi (i + 1) (by omega) (by omega))
        · refine E_iload dL_ahead_103 (by rfl) ?_
          refine E_goto (tgt := 111) dL_ahead_105 (by decide) ?_
          refine E_iadd dL_ahead_111 ?_
          refine E_istore dL_ahead_112 (Nat.le_of_ble_eq_true rfl) (by rfl) ?_
          refine E_iinc (d := 1) dL_ahead_114 (by rfl) (by decide) (Nat.le_of_ble_eq_true rfl) (by rfl) ?_
          refine E_goto (tgt := 63) dL_ahead_117 (by decide) ?_
          exact E_loc [(0, .ref 0), (1, .ref 86), (2, .ref 87), (3, .ref 88), (4, .ref 89), (5, .int best), (6, .int most), (7, .int quiet), (8, .int (nI u)), (9, .ref r1), (10, .ref r2), (11, .int lf), (12, .int (sGn S (gRoll S (nI u) n) (i + 1))), (13, .int (nI (i + 1)))] ⟨rfl, rfl, rfl, rfl, rfl, rfl, rfl, rfl, rfl, rfl, rfl, rfl, x_i (by simp only [sGn]; first | rw [if_pos q100] | rw [if_neg q100]), x_i (by first | exact nI_1 _ | decide), trivial⟩ (ihi (i + 1) (by omega) (by omega))
  refine E_iconst (v := 0) dL_ahead_57 (by decide) ?_
  refine E_istore dL_ahead_58 (Nat.le_of_ble_eq_true rfl) (by rfl) ?_
  refine E_iconst (v := 0) dL_ahead_60 (by decide) ?_
  refine E_istore dL_ahead_61 (Nat.le_of_ble_eq_true rfl) (by rfl) ?_
  exact E_loc [(0, .ref 0), (1, .ref 86), (2, .ref 87), (3, .ref 88), (4, .ref 89), (5, .int best), (6, .int most), (7, .int quiet), (8, .int (nI u)), (9, .ref r1), (10, .ref r2), (11, .int lf), (12, .int (sGn S (gRoll S (nI u) n) 0)), (13, .int (nI 0))] ⟨rfl, rfl, rfl, rfl, rfl, rfl, rfl, rfl, rfl, rfl, rfl, rfl, rfl, rfl, trivial⟩ (loop (n + 1) 0 (by omega) (by omega))
end AH
