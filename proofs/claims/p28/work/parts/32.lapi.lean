/-! the calls that change, on the class's object as the law sees it -/
section WD
variable {G : xG} {mem mm M : xM} {T n m u k x y rc rt : Nat} {S V : gS} {C : cS} {v w : Int32}
def Wd (mem : xM) (S : gS) : Prop := ∃ C, cAt mem C ∧ k_gm C = S ∧ k_c C ≤ 5
abbrev Pm (mem : xM) (S : gS) : xM → Prop := fun mm => Wd mm S ∧ xS86 mem mm
theorem Wd.fr (h : Wd mem S) (hf : Fr rc rt mem mm) (h1 : 86 ≤ rc) (h2 : 86 ≤ rt) : Wd mm S := by
  obtain ⟨C, a1, a2, a3⟩ := h
  exact ⟨C, cAt_fr a1 hf h1 h2, a2, a3⟩
theorem Wd.a0 (h : Wd mem S) : ∃ v, mem[0]? = some (k_o v) := by
  obtain ⟨C, a1, a2, a3⟩ := h
  exact ⟨_, a1.1⟩
theorem cRec5 (C : cS) : k_c (cRec C) ≤ 5 := Nat.min_le_right _ _
theorem pm_ok {V : gS} (h : cDone mem (cRec (V, C.1, C.2.2)) mm) : Pm mem V mm := ⟨⟨_, h.1, rfl, cRec5 _⟩, h.2⟩
theorem pm_no (hc : k_c C ≤ 5) (hS : k_gm C = S) (h : cDone mem (cAh C) mm) : Pm mem S mm := ⟨⟨_, h.1, hS, hc⟩, h.2⟩
theorem w_setTop_ok (hW : Wd mem S) (hI : Iv S T n m) (hx : 10 ≤ x ∧ x ≤ 60) (hf : ∀ s, x ≤ s → s < T → ¬ g_blk S n s) : Pt G kX3_setTop [.ref 0, .int (nI x)] mem (some (.int (nI T))) (Pm mem (g_wO S (nI x) (g_cl S) (g_mv S) (g_ro S) (g_lo S))) := by
  obtain ⟨C, hC, hS, h5⟩ := hW
  subst hS
  have t60 := hI.t60
  have hA : gAt (gPut mem 10 (k_gm C)) 1 (k_gm C) := (cAt_ah hC (k_gm C)).2.1
  have q := c_changeTop_ok (G := G) hA (T := k_gm C) hI.gt t60 hI.gc hI.n6 hx hf
  rw [gPut_self hA] at q
  exact (k_setTop_ok hC h5 hI.la q (by rw [nI_toInt (by omega)]; omega)).imp (fun _ h => pm_ok h)
theorem w_setTop_no (hW : Wd mem S) (hI : Iv S T n m) (hx : 10 ≤ x ∧ x ≤ 60) (hf : ∃ s, x ≤ s ∧ s < T ∧ g_blk S n s) : Pt G kX3_setTop [.ref 0, .int (nI x)] mem (some (.int (-3))) (Pm mem S) := by
  obtain ⟨C, hC, hS, h5⟩ := hW
  subst hS
  have hA : gAt (gPut mem 10 (k_gm C)) 1 (k_gm C) := (cAt_ah hC (k_gm C)).2.1
  exact (k_setTop_no hC hI.la (c_changeTop_blk hA hI.gt hI.t60 hI.gc hI.n6 hx hf) (by decide)).imp (fun _ h => pm_no h5 rfl h)
theorem sCn_ge0 {p : Nat → Prop} [DecidablePred p] {n : Nat} (hn : n ≤ 100) : 0 ≤ (sCn p n).toInt := by
  have := cN_le p n
  rw [sCn_nI, nI_toInt (by omega)]
  omega
theorem w_lay_ok (hW : Wd mem S) (hI : Iv S T n m) (hw : gWhyL S T n v w = 0) : Pt G kX3_lay [.ref 0, .int v, .int w] mem (some (.int (sCn (g_up (g_le (gLay S v w))) T))) (Pm mem (gLay S v w)) := by
  obtain ⟨C, hC, hS, h5⟩ := hW
  subst hS
  have t60 := hI.t60
  have hA : gAt (gPut mem 10 (k_gm C)) 1 (k_gm C) := (cAt_ah hC (k_gm C)).2.1
  have q := c_layCarpet_ok (G := G) hA (T := k_gm C) hI.gt t60 hI.gc hI.n6 v w hw
  rw [gPut_self hA] at q
  exact (k_lay_ok hC h5 hI.la q (sCn_ge0 (by omega))).imp (fun _ h => pm_ok h)
theorem gWhyL_neg (hw : gWhyL S T n v w ≠ 0) : (gWhyL S T n v w).toInt < 0 := by
  unfold gWhyL at hw ⊢
  split
  · decide
  · split
    · decide
    · split
      · decide
      · split
        · decide
        · split
          · decide
          · rename_i h1 h2 h3 h4 h5
            rw [if_neg h1, if_neg h2, if_neg h3, if_neg h4, if_neg h5] at hw
            exact absurd rfl hw
theorem w_lay_no (hW : Wd mem S) (hI : Iv S T n m) (hw : gWhyL S T n v w ≠ 0) : Pt G kX3_lay [.ref 0, .int v, .int w] mem (some (.int (gWhyL S T n v w))) (Pm mem S) := by
  obtain ⟨C, hC, hS, h5⟩ := hW
  subst hS
  have hA : gAt (gPut mem 10 (k_gm C)) 1 (k_gm C) := (cAt_ah hC (k_gm C)).2.1
  exact (k_lay_no hC hI.la (c_layCarpet_no hA hI.gt hI.t60 hI.gc hI.n6 v w hw) (gWhyL_neg hw)).imp (fun _ h => pm_no h5 rfl h)
theorem w_take_ok (hW : Wd mem S) (hI : Iv S T n m) (hu : g_isUp S v) (hr : 0 ≤ (g_le S v.toNatClampNeg).toInt) : Pt G kX3_take [.ref 0, .int v] mem (some (.int (g_le S v.toNatClampNeg))) (Pm mem (gTake S v)) := by
  obtain ⟨C, hC, hS, h5⟩ := hW
  subst hS
  have t60 := hI.t60
  have hA : gAt (gPut mem 10 (k_gm C)) 1 (k_gm C) := (cAt_ah hC (k_gm C)).2.1
  have q := c_takeCarpet_ok (G := G) hA (T := k_gm C) (by rw [hI.gtI]; omega) v hu
  rw [gPut_self hA] at q
  exact (k_take_ok hC h5 hI.la q hr).imp (fun _ h => pm_ok h)
theorem w_take_no (hW : Wd mem S) (hI : Iv S T n m) (hu : ¬ g_isUp S v) : Pt G kX3_take [.ref 0, .int v] mem (some (.int (-1))) (Pm mem S) := by
  obtain ⟨C, hC, hS, h5⟩ := hW
  subst hS
  have t60 := hI.t60
  have hA : gAt (gPut mem 10 (k_gm C)) 1 (k_gm C) := (cAt_ah hC (k_gm C)).2.1
  exact (k_take_no hC hI.la (c_takeCarpet_no hA (by rw [hI.gtI]; omega) v hu) (by decide)).imp (fun _ h => pm_no h5 rfl h)
theorem w_put_ok (hW : Wd mem S) (hI : Iv S T n m) (hw : gWhyP S v = 0) : Pt G kX3_put [.ref 0, .int v] mem (some (.int (sCn (g_lan (g_la (gPutL S v 1))) T))) (Pm mem (gPutL S v 1)) := by
  obtain ⟨C, hC, hS, h5⟩ := hW
  subst hS
  have t60 := hI.t60
  have hA : gAt (gPut mem 10 (k_gm C)) 1 (k_gm C) := (cAt_ah hC (k_gm C)).2.1
  have q := c_putLanding_ok (G := G) hA (T := k_gm C) hI.gt t60 v hw
  rw [gPut_self hA] at q
  exact (k_put_ok hC h5 hI.la q (sCn_ge0 (by omega))).imp (fun _ h => pm_ok h)
theorem gWhyP_neg (hw : gWhyP S v ≠ 0) : (gWhyP S v).toInt < 0 := by
  unfold gWhyP at hw ⊢
  split
  · decide
  · split
    · decide
    · rename_i h1 h2
      rw [if_neg h1, if_neg h2] at hw
      exact absurd rfl hw
theorem w_put_no (hW : Wd mem S) (hI : Iv S T n m) (hw : gWhyP S v ≠ 0) : Pt G kX3_put [.ref 0, .int v] mem (some (.int (gWhyP S v))) (Pm mem S) := by
  obtain ⟨C, hC, hS, h5⟩ := hW
  subst hS
  have t60 := hI.t60
  have hA : gAt (gPut mem 10 (k_gm C)) 1 (k_gm C) := (cAt_ah hC (k_gm C)).2.1
  exact (k_put_no hC hI.la (c_putLanding_no hA (by rw [hI.gtI]; omega) v hw) (gWhyP_neg hw)).imp (fun _ h => pm_no h5 rfl h)
theorem sBc_ge : ∀ a, a < 64 → 0 ≤ (sBc (nI a)).toInt := by decide
theorem w_remove_ok (hW : Wd mem S) (hI : Iv S T n m) (hu : g_isLa S v) : Pt G kX3_remove [.ref 0, .int v] mem (some (.int (sBc (sOn (g_pl S) v n)))) (Pm mem (gPutL S v 0)) := by
  obtain ⟨C, hC, hS, h5⟩ := hW
  subst hS
  have t60 := hI.t60
  have hA : gAt (gPut mem 10 (k_gm C)) 1 (k_gm C) := (cAt_ah hC (k_gm C)).2.1
  have q := c_removeLanding_ok (G := G) hA (T := k_gm C) (by rw [hI.gtI]; omega) hI.gc hI.n6 v hu
  rw [gPut_self hA] at q
  obtain ⟨a, ha, e⟩ := sOn_64 (g_pl (k_gm C)) v n hI.n6
  exact (k_remove_ok hC h5 hI.la q (by rw [e]; exact sBc_ge a ha)).imp (fun _ h => pm_ok h)
theorem w_remove_no (hW : Wd mem S) (hI : Iv S T n m) (hu : ¬ g_isLa S v) : Pt G kX3_remove [.ref 0, .int v] mem (some (.int (-1))) (Pm mem S) := by
  obtain ⟨C, hC, hS, h5⟩ := hW
  subst hS
  have t60 := hI.t60
  have hA : gAt (gPut mem 10 (k_gm C)) 1 (k_gm C) := (cAt_ah hC (k_gm C)).2.1
  exact (k_remove_no hC hI.la (c_removeLanding_no hA (by rw [hI.gtI]; omega) v hu) (by decide)).imp (fun _ h => pm_no h5 rfl h)
theorem w_join (hW : Wd mem S) (hI : Iv S T n m) (hn : n < 6) : Pt G kX3_join [.ref 0] mem (some (.int (nI n))) (Pm mem (gAdd S)) := by
  obtain ⟨C, hC, hS, h5⟩ := hW
  subst hS
  have hA : gAt (gPut mem 10 (k_gm C)) 1 (k_gm C) := (cAt_ah hC (k_gm C)).2.1
  have q := c_addClimber_ok (G := G) hA (T := k_gm C) (by rw [hI.gcI]; omega)
  have e : g_cl (k_gm C) + 1 - 1 = nI n := by rw [Int32.add_sub_cancel]; exact hI.gc
  rw [gPut_self hA, e] at q
  exact (k_join_ok hC h5 hI.la q (by rw [nI_toInt (by omega)]; omega)).imp (fun _ h => pm_ok h)
theorem w_roll (hW : Wd mem S) (hI : Iv S T n m) (hm : m < n) (hu : 1 ≤ u ∧ u ≤ 6) : Pt G kX3_roll [.ref 0, .int (nI u)] mem (some (.int (g_pl (gRoll S (nI u) n) m))) (Pm mem (gRoll S (nI u) n)) := by
  obtain ⟨C, hC, hS, h5⟩ := hW
  subst hS
  have t60 := hI.t60
  have n6 := hI.n6
  have hA : gAt (gPut mem 10 (k_gm C)) 1 (k_gm C) := (cAt_ah hC (k_gm C)).2.1
  have q := c_makeRoll_ok (G := G) hA (T := k_gm C) (by rw [hI.gtI]; omega) hI.gc n6 ⟨by rw [hI.gmI]; omega, by rw [hI.gmI, hI.gcI]; omega⟩ (nI u) (by rw [nI_toInt (by omega)]; omega)
  rw [gPut_self hA, hI.gmN] at q
  obtain ⟨m', hm', hI2⟩ := Iv_roll (u := u) hI hm
  obtain ⟨p, p1, p2⟩ := hI2.pl m (by omega)
  exact (k_roll_ok hC h5 hI.la q (by rw [p2, nI_toInt (by omega)]; omega)).imp (fun _ h => pm_ok h)
theorem w_pass (hW : Wd mem S) (hI : Iv S T n m) (hm : m < n) : ∃ m', m' < n ∧ Iv (gNext S) T n m' ∧ Pt G kX3_pass [.ref 0] mem (some (.int (nI m'))) (Pm mem (gNext S)) := by
  obtain ⟨C, hC, hS, h5⟩ := hW
  subst hS
  have t60 := hI.t60
  have n6 := hI.n6
  have hA : gAt (gPut mem 10 (k_gm C)) 1 (k_gm C) := (cAt_ah hC (k_gm C)).2.1
  obtain ⟨m', hm', hI2⟩ := Iv_next hI.jv hI.gm hm hI.rs (fun i hi hn => (hI.out i hi hn).2.2.1)
  have q := c_makePass_ok (G := G) hA (T := k_gm C) (by rw [hI.gcI]; omega) ⟨by rw [hI.gmI]; omega, by rw [hI.gmI, hI.gcI]; omega⟩
  rw [gPut_self hA, hI2.gm] at q
  exact ⟨m', hm', hI2, (k_pass_ok hC h5 hI.la q (by rw [nI_toInt (by omega)]; omega)).imp (fun _ h => pm_ok h)⟩
end WD
