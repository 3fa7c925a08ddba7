/-! the calls, two by two: those that change -/
section T1
variable {G : xG} {mem : xM} {b : Nat}
theorem two_setTop (h : StE b mem) (a : Int32) : Two G kX3_setTop [.ref 0, .int a] kX4_setTop [.ref 86, .int a] mem (b + 31) := by
  obtain ⟨C, M, hC, hM, hI⟩ := h
  obtain ⟨t, n, k, m, hR, hr, hb, hl⟩ := id hI.1
  have hla := hR.g01
  have t60 := hR.t60
  have hA : gAt (gPut mem 10 (k_gm C)) 1 (k_gm C) := (cAt_ah hC (k_gm C)).2.1
  by_cases h1 : 10 ≤ a.toInt ∧ a.toInt ≤ 60
  · have ea := i_nI (x := a) (by omega)
    have ec := i_cl (x := a) (by omega)
    obtain ⟨x, hx⟩ : ∃ x, a.toNatClampNeg = x := ⟨_, rfl⟩
    rw [hx] at ea ec
    subst ea
    have hx2 : 10 ≤ x ∧ x ≤ 60 := by omega
    by_cases h2 : ∃ s, x ≤ s ∧ s < t ∧ g_blk (k_gm C) n s
    · exact two_of0 hM (k_setTop_no hC hla (c_changeTop_blk hA hR.gt t60 hR.gn hR.n6 hx2 h2) (by decide)) (fun m1 _ hm => n_setTop_no2 hm hR.z1 hR.n6 hR.z3 hR.k6 x hx2 ((hR.blk x).mp h2)) (hI.ah.mono (by omega))
    · have hf : ∀ s, x ≤ s → s ≤ 60 → m_fr (m_z M) n k s := Classical.byContradiction (fun q => h2 ((hR.blk x).mpr q))
      have q := c_changeTop_ok (G := G) hA (T := k_gm C) hR.gt t60 hR.gn hR.n6 hx2 (fun s s1 s2 s3 => h2 ⟨s, s1, s2, s3⟩)
      rw [gPut_self hA] at q
      refine two_of hM (k_setTop_ok hC hI.2.1 hla q (by rw [nI_toInt (by omega)]; omega)) (fun m1 _ hm => ?_) (hI.rec (b := b + 31) (by omega) ⟨x, n, k, m, hR.setTop hx2 hf, hr, hb.mono (by omega), hl⟩)
      have q2 := n_setTop (G := G) hm hR.z1 hR.n6 hR.z3 hR.k6 hI.2.2.1 hI.2.1 x hx2 hf
      rw [hR.z0] at q2
      exact q2
  · exact two_of0 hM (k_setTop_no hC hla (c_changeTop_out a (by omega)) (by decide)) (fun m1 _ hm => n_setTop_no1 hm a h1) (hI.ah.mono (by omega))
theorem two_lay (h : StE b mem) (x y : Int32) : Two G kX3_lay [.ref 0, .int x, .int y] kX4_lay [.ref 86, .int x, .int y] mem (b + 31) := by
  obtain ⟨C, M, hC, hM, hI⟩ := h
  obtain ⟨t, n, k, m, hR, hr, hb, hl⟩ := id hI.1
  have hla := hR.g01
  have t60 := hR.t60
  have t10 := hR.t10
  have k6 := hR.k6
  have hA : gAt (gPut mem 10 (k_gm C)) 1 (k_gm C) := (cAt_ah hC (k_gm C)).2.1
  have hw := hR.whyL x y
  by_cases h1 : (mWL (m_z M) n k x y).toInt = 0
  · have q := c_layCarpet_ok (G := G) hA (T := k_gm C) hR.gt t60 hR.gn hR.n6 x y (by rw [hw]; exact i_lit0.mpr h1)
    have hL := hR.lay2 h1
    rw [gPut_self hA, hL.ncar] at q
    have hk : k < 6 := by
      have q4 := (mWL_ok h1).2.2.2
      rw [hR.z3, nI_toInt (by omega)] at q4
      omega
    exact two_of hM (k_lay_ok hC hI.2.1 hla q (by rw [nI_toInt (by omega)]; omega)) (fun m1 _ hm => n_lay hm hR.z1 hR.n6 hR.z3 hk hR.z0 t60 (by omega) hI.2.2.1 hI.2.1 x y (by omega)) (hI.rec (b := b + 31) (by omega) ⟨t, n, k + 1, m, hL, hr, hb.mono (by omega), hl⟩)
  · have h2 := (mWL_neg (m_z M) n k x y).resolve_left h1
    have q := c_layCarpet_no (G := G) hA hR.gt t60 hR.gn hR.n6 x y (by rw [hw]; exact fun e => h1 (i_lit0.mp e))
    rw [hw] at q
    exact two_of0 hM (k_lay_no hC hla q h2) (fun m1 _ hm => n_lay_no hm hR.z1 hR.n6 hR.z3 k6 hR.z0 t60 (by omega) x y h2) (hI.ah.mono (by omega))
theorem two_take (h : StE b mem) (x : Int32) : Two G kX3_take [.ref 0, .int x] kX4_take [.ref 86, .int x] mem (b + 31) := by
  obtain ⟨C, M, hC, hM, hI⟩ := h
  obtain ⟨t, n, k, m, hR, hr, hb, hl⟩ := id hI.1
  have hla := hR.g01
  have t60 := hR.t60
  have k6 := hR.k6
  have hA : gAt (gPut mem 10 (k_gm C)) 1 (k_gm C) := (cAt_ah hC (k_gm C)).2.1
  have ht : (g_top (k_gm C)).toInt ≤ 60 := by rw [hR.gt, nI_toInt (by omega)]; omega
  have hu := hR.up x
  rcases mCF_cases (m_z M) x k with ⟨e, _⟩ | ⟨j, hj, e, he⟩
  · have e6 : (mCF (m_z M) x k).toInt = -6 := by rw [e]; decide
    exact two_of0 hM (k_take_no hC hla (c_takeCarpet_no hA ht x (fun q => hu.mp q e6)) (by decide)) (fun m1 _ hm => n_take_no hm hR.z3 k6 x e6) (hI.ah.mono (by omega))
  · obtain ⟨u, l, b1, b2, b3, b4, b5⟩ := hR.cp.1 j hj
    have ex : x = nI u := (Int32.toInt_inj.mp he).symm.trans b1
    subst ex
    have hup : g_isUp (k_gm C) (nI u) := hu.mpr (by rw [e]; exact nI_t6 (by omega))
    have q := c_takeCarpet_ok (G := G) hA (T := k_gm C) ht (nI u) hup
    rw [gPut_self hA, nI_clamp (by omega), b5] at q
    refine two_of hM (k_take_ok hC hI.2.1 hla q (by rw [nI_toInt (by omega)]; omega)) (fun m1 _ hm => ?_) (hI.rec (b := b + 31) (by omega) ⟨t, n, k - 1, m, hR.take hj b4 b1, hr, hb.mono (by omega), hl⟩)
    have q2 := n_take (G := G) hm hR.z3 k6 hI.2.2.1 hI.2.1 (nI u) hj e
    rw [b2] at q2
    exact q2
theorem two_put (h : StE b mem) (x : Int32) : Two G kX3_put [.ref 0, .int x] kX4_put [.ref 86, .int x] mem (b + 31) := by
  obtain ⟨C, M, hC, hM, hI⟩ := h
  obtain ⟨t, n, k, m, hR, hr, hb, hl⟩ := id hI.1
  have hla := hR.g01
  have t60 := hR.t60
  have t10 := hR.t10
  have k6 := hR.k6
  have hA : gAt (gPut mem 10 (k_gm C)) 1 (k_gm C) := (cAt_ah hC (k_gm C)).2.1
  have ht : (g_top (k_gm C)).toInt ≤ 60 := by rw [hR.gt, nI_toInt (by omega)]; omega
  have hw := hR.whyP x
  by_cases h1 : (mWP (m_z M) k x).toInt = 0
  · have q := c_putLanding_ok (G := G) hA (T := k_gm C) hR.gt t60 x (by rw [hw]; exact i_lit0.mpr h1)
    have hL := hR.put2 h1
    have q0 := sCn_ge (g_lan (g_la (gPutL (k_gm C) x 1))) (q := t) (by omega)
    have hs := hR.stt (mWP_ok h1).1
    have ea := i_nI (x := x) (by omega)
    have ec := i_cl (x := x) (by omega)
    rw [gPut_self hA, hL.nland] at q
    rw [hL.nland] at q0
    refine two_of hM (k_put_ok hC hI.2.1 hla q q0) (fun m1 _ hm => ?_) (hI.rec (b := b + 31) (by omega) ⟨t, n, k, m, hL, hr, hb.mono (by omega), put_l0 hl (by omega)⟩)
    have q2 := n_put (G := G) hm hR.z3 k6 hR.z0 t60 (by omega) hI.2.2.1 hI.2.1 x.toNatClampNeg (by omega) (by rw [← ea]; omega)
    rw [← ea] at q2
    exact q2
  · have h2 := (mWP_neg (m_z M) k x).resolve_left h1
    have q := c_putLanding_no (G := G) hA ht x (by rw [hw]; exact fun e => h1 (i_lit0.mp e))
    rw [hw] at q
    exact two_of0 hM (k_put_no hC hla q h2) (fun m1 _ hm => n_put_no hm hR.z3 k6 hR.z0 t60 (by omega) x h2) (hI.ah.mono (by omega))
theorem sBc_ge : ∀ a, a < 64 → 0 ≤ (sBc (nI a)).toInt := by decide
theorem two_remove (h : StE b mem) (x : Int32) : Two G kX3_remove [.ref 0, .int x] kX4_remove [.ref 86, .int x] mem (b + 31) := by
  obtain ⟨C, M, hC, hM, hI⟩ := h
  obtain ⟨t, n, k, m, hR, hr, hb, hl⟩ := id hI.1
  have hla := hR.g01
  have t60 := hR.t60
  have t10 := hR.t10
  have k6 := hR.k6
  have e1 := hR.top1
  have hA : gAt (gPut mem 10 (k_gm C)) 1 (k_gm C) := (cAt_ah hC (k_gm C)).2.1
  have ht : (g_top (k_gm C)).toInt ≤ 60 := by rw [hR.gt, nI_toInt (by omega)]; omega
  have hi := hR.isLa x
  have hiff : g_isLa (k_gm C) x ↔ m_st (m_z M) x ∧ m_la (m_z M) x.toNatClampNeg := by
    rw [hi]
    constructor
    · rintro ⟨q1, q2⟩
      refine ⟨?_, q2⟩
      have c1 := i_cl (x := x) (by omega)
      by_cases x0 : x.toInt = 0
      · rw [show x.toNatClampNeg = 0 by omega] at q2
        have l0 := hR.la 0 (by omega)
        have q3 : (m_z M (57 + 0)).toInt = 1 := q2
        rw [l0, hl] at q3
        exact absurd q3 (by decide)
      · exact ⟨by omega, by omega⟩
    · rintro ⟨q1, q2⟩
      have := hR.stt q1
      exact ⟨by omega, q2⟩
  by_cases h1 : g_isLa (k_gm C) x
  · have hs := hR.stt (hiff.mp h1).1
    have ea := i_nI (x := x) (by omega)
    have ec := i_cl (x := x) (by omega)
    have q := c_removeLanding_ok (G := G) hA (T := k_gm C) ht hR.gn hR.n6 x h1
    obtain ⟨a, a1, a2⟩ := sOn_64 (g_pl (k_gm C)) x n hR.n6
    have q0 : 0 ≤ (sBc (sOn (g_pl (k_gm C)) x n)).toInt := by rw [a2]; exact sBc_ge a a1
    rw [gPut_self hA] at q
    have hP := hR.put (s := x.toNatClampNeg) (by omega) 0 (Or.inl rfl)
    rw [← ea] at hP
    refine two_of hM (k_remove_ok hC hI.2.1 hla q q0) (fun m1 _ hm => ?_) (hI.rec (b := b + 31) (by omega) ⟨t, n, k, m, hP, hr, hb.mono (by omega), put_l0 hl (by omega)⟩)
    have q2 := n_remove (G := G) hm hR.z0 t60 (by omega) hR.z1 hR.n6 hI.2.2.1 hI.2.1 x.toNatClampNeg (by omega) (by rw [← ea]; exact hiff.mp h1)
    rw [← ea, ← hR.bits x x.toNatClampNeg] at q2
    exact q2
  · exact two_of0 hM (k_remove_no hC hla (c_removeLanding_no hA ht x h1) (by decide)) (fun m1 _ hm => n_remove_no hm hR.z0 t60 (by omega) x (fun q => h1 (hiff.mpr q))) (hI.ah.mono (by omega))
theorem two_join (h : StE b mem) : Two G kX3_join [.ref 0] kX4_join [.ref 86] mem (b + 31) := by
  obtain ⟨C, M, hC, hM, hI⟩ := h
  obtain ⟨t, n, k, m, hR, hr, hb, hl⟩ := id hI.1
  have hla := hR.g01
  have n6 := hR.n6
  have hA : gAt (gPut mem 10 (k_gm C)) 1 (k_gm C) := (cAt_ah hC (k_gm C)).2.1
  have hcl : (g_cl (k_gm C)).toInt = (n : Int) := by rw [hR.gn]; exact nI_toInt (by omega)
  by_cases h1 : n = 6
  · exact two_of0 hM (k_join_no hC hla (c_addClimber_no hA (by omega)) (by decide)) (fun m1 _ hm => n_join_no hm (by rw [hR.z1, h1])) (hI.ah.mono (by omega))
  · have q := c_addClimber_ok (G := G) hA (T := k_gm C) (by omega)
    rw [gPut_self hA, Int32.add_sub_cancel, hR.gn] at q
    exact two_of hM (k_join_ok hC hI.2.1 hla q (by rw [nI_toInt (by omega)]; omega)) (fun m1 _ hm => n_join hm hR.z1 (by omega) hI.2.2.1 hI.2.1) (hI.rec (b := b + 31) (by omega) ⟨t, n + 1, k, m, hR.join (by omega), hr, hb.mono (by omega), hl⟩)
theorem two_roll (h : StE b mem) (u : Int32) : Two G kX3_roll [.ref 0, .int u] kX4_roll [.ref 86, .int u] mem (b + 31) := by
  obtain ⟨C, M, hC, hM, hI⟩ := h
  obtain ⟨t, n, k, m, hR, hr, hb, hl⟩ := id hI.1
  have hla := hR.g01
  have n6 := hR.n6
  have t60 := hR.t60
  have hA : gAt (gPut mem 10 (k_gm C)) 1 (k_gm C) := (cAt_ah hC (k_gm C)).2.1
  have ht : (g_top (k_gm C)).toInt ≤ 60 := by rw [hR.gt, nI_toInt (by omega)]; omega
  by_cases h1 : 1 ≤ u.toInt ∧ u.toInt ≤ 6
  · by_cases hm : m < n
    · have eu := i_nI (x := u) (by omega)
      have ec := i_cl (x := u) (by omega)
      obtain ⟨g1, g2, g3, g4⟩ := hR.roll hm hr (u := u.toNatClampNeg) ⟨by omega, by omega⟩
      have g5 := hR.tb (u := u) hm hb
      have hto := hR.to hm (u := u.toNatClampNeg) (by omega)
      rw [← eu] at g1 g2 g3 g4 hto
      have q := c_makeRoll_ok (G := G) hA (T := k_gm C) ht hR.gn n6 (hR.mover.mpr hm) u h1
      obtain ⟨p, p1, p2⟩ := g2.plt m (by omega)
      rw [gPut_self hA, hR.gmm, p2] at q
      refine two_of hM (k_roll_ok hC hI.2.1 hla q (by rw [nI_toInt (by omega)]; omega)) (fun m1 _ hm1 => ?_) (hI.rec (b := b + 31) (by omega) ⟨t, n, k, _, g2, g3, g5.mono (by omega), by rw [gRoll_la]; exact hl⟩)
      have q2 := n_roll (G := G) hm1 hI.2.2.1 hI.2.1 hR.z1 n6 hR.z2 hm hR.z3 hR.k6 (by rw [hR.z0, nI_toInt (by omega)]; omega) (Ok.plo hR) u h1 hto g1
      rw [g2.pl m (by omega), p2] at q2
      exact q2
    · have mn := hR.mn
      have hz : (mWR (m_z M) u) = -3 := by
        unfold mWR
        rw [if_neg (not_not_intro h1), hR.z1i, if_pos (by omega)]
      refine two_of0 hM (k_roll_no hC hla (c_makeRoll_no2 hA u h1 (fun q => hm (hR.mover.mp q))) (by decide)) (fun m1 _ hm1 => ?_) (hI.ah.mono (by omega))
      have q := n_roll_no (G := G) hm1 u (by rw [hz]; decide)
      rw [hz] at q
      exact q
  · have hz : (mWR (m_z M) u) = -2 := by
      unfold mWR
      rw [if_pos h1]
    refine two_of0 hM (k_roll_no hC hla (c_makeRoll_no1 hA u h1) (by decide)) (fun m1 _ hm1 => ?_) (hI.ah.mono (by omega))
    have q := n_roll_no (G := G) hm1 u (by rw [hz]; decide)
    rw [hz] at q
    exact q
theorem two_pass (h : StE b mem) : Two G kX3_pass [.ref 0] kX4_pass [.ref 86] mem (b + 31) := by
  obtain ⟨C, M, hC, hM, hI⟩ := h
  obtain ⟨t, n, k, m, hR, hr, hb, hl⟩ := id hI.1
  have hla := hR.g01
  have n6 := hR.n6
  have hA : gAt (gPut mem 10 (k_gm C)) 1 (k_gm C) := (cAt_ah hC (k_gm C)).2.1
  by_cases hm : m < n
  · obtain ⟨g1, g2, g3⟩ := hR.next hm
    have q := c_makePass_ok (G := G) hA (T := k_gm C) (by rw [hR.gn, nI_toInt (by omega)]; omega) (hR.mover.mpr hm)
    rw [gPut_self hA, g1.gm] at q
    exact two_of hM (k_pass_ok hC hI.2.1 hla q (by rw [nI_toInt (by omega)]; omega)) (fun m1 _ hm1 => n_pass hm1 hI.2.2.1 hI.2.1 hR.z1 n6 hR.z2 hm (hR.nok hm)) (hI.rec (b := b + 31) (by omega) ⟨t, n, k, _, g1, g2, (hb.mono (by omega)).of (gNext_fix (k_gm C)).2.2.2.1, by rw [(gNext_fix (k_gm C)).2.1]; exact hl⟩)
  · have mn := hR.mn
    exact two_of0 hM (k_pass_no hC hla (c_makePass_no hA (fun q => hm (hR.mover.mp q))) (by decide)) (fun m1 _ hm1 => n_pass_no hm1 (by rw [hR.z1, show n = 0 by omega]; rfl)) (hI.ah.mono (by omega))
end T1
