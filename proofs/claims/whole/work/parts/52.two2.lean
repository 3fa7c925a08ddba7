/-! the calls, two by two: those that tell, texts, undo and what is saved -/
section T2
variable {G : xG} {mem : xM} {b : Nat} {C : cS} {M M' : mS} {S T : gS}
/-- two answers without a change of the class, the reference's rows written over -/
theorem two_rd {kx km : xI} {ax am : List Value} {r r' : Int32} (hC : cAt mem C) (hM : mAt mem M) (h1 : Dt G kx ax mem (some (.int r)) mem) (h2 : Dt G km am mem (some (.int r')) mem) (e : r = r') (hi : Inv C M b) : Two G kx ax km am mem b := by
  subst e
  exact ⟨r, h1.pt ⟨⟨M, hM⟩, h2.pt ⟨C, M, hC, hM, hi⟩⟩⟩
theorem two_climber (h : StE b mem) (x y : Int32) : Two G kX3_climber [.ref 0, .int x, .int y] kX4_climber [.ref 86, .int x, .int y] mem (b + 31) := by
  obtain ⟨C, M, hC, hM, hI⟩ := h
  obtain ⟨t, n, k, m, hR, hr, hb, hl⟩ := id hI.1
  have n6 := hR.n6
  exact two_rd hC hM (k_climber hC (by rw [hR.gn, nI_toInt (by omega)]; omega) x y) (n_climber hM hR.z1 n6 x y) (hR.climber x y) (hI.mono (by omega))
theorem two_turn (h : StE b mem) : Two G kX3_turn [.ref 0] kX4_turn [.ref 86] mem (b + 31) := by
  obtain ⟨C, M, hC, hM, hI⟩ := h
  obtain ⟨t, n, k, m, hR, hr, hb, hl⟩ := id hI.1
  exact two_rd hC hM (k_turn hC) (n_turn hM) hR.turn (hI.mono (by omega))
theorem two_on (h : StE b mem) (x : Int32) : Two G kX3_on [.ref 0, .int x] kX4_on [.ref 86, .int x] mem (b + 31) := by
  obtain ⟨C, M, hC, hM, hI⟩ := h
  obtain ⟨t, n, k, m, hR, hr, hb, hl⟩ := id hI.1
  exact two_rd hC hM (k_on hC hR.gn hR.n6 x) (n_on hM hR.z1 hR.n6 x) (hR.on x) (hI.mono (by omega))
theorem two_step (h : StE b mem) (x y : Int32) : Two G kX3_step [.ref 0, .int x, .int y] kX4_step [.ref 86, .int x, .int y] mem (b + 31) := by
  obtain ⟨C, M, hC, hM, hI⟩ := h
  obtain ⟨t, n, k, m, hR, hr, hb, hl⟩ := id hI.1
  have t60 := hR.t60
  exact two_rd hC hM (k_step hC hR.gt t60 x y) (n_step hM hR.z3 hR.k6 (by rw [hR.z0, nI_toInt (by omega)]; omega) x y) (hR.step x y) (hI.mono (by omega))
theorem two_total (h : StE b mem) (x : Int32) : Two G kX3_total [.ref 0, .int x] kX4_total [.ref 86, .int x] mem (b + 31) := by
  obtain ⟨C, M, hC, hM, hI⟩ := h
  obtain ⟨t, n, k, m, hR, hr, hb, hl⟩ := id hI.1
  exact two_rd hC hM (k_total hC hR.gt hR.t60 x) (n_total hM hR.z1 hR.n6 x) (hR.total x) (hI.mono (by omega))
theorem two_rank (h : StE b mem) (x : Int32) : Two G kX3_rank [.ref 0, .int x] kX4_rank [.ref 86, .int x] mem (b + 31) := by
  obtain ⟨C, M, hC, hM, hI⟩ := h
  obtain ⟨t, n, k, m, hR, hr, hb, hl⟩ := id hI.1
  exact two_rd hC hM (k_rank hC hR.gn hR.n6 x) (n_rank hM hR.z1 hR.n6 x) (by rw [hR.rank x]) (hI.mono (by omega))
theorem two_ifRolled (h : StE b mem) (u p : Int32) : Two G kX3_ifRolled [.ref 0, .int u, .int p] kX4_ifRolled [.ref 86, .int u, .int p] mem (b + 31) := by
  obtain ⟨C, M, hC, hM, hI⟩ := h
  obtain ⟨t, n, k, m, hR, hr, hb, hl⟩ := id hI.1
  have hla := hR.g01
  have n6 := hR.n6
  have t60 := hR.t60
  by_cases h1 : (1 ≤ u.toInt ∧ u.toInt ≤ 6) ∧ 0 ≤ p.toInt ∧ p.toInt ≤ 4
  · by_cases hm : m < n
    · have eu := i_nI (x := u) (by omega)
      have ec := i_cl (x := u) (by omega)
      have g1 := (hR.roll hm hr (u := u.toNatClampNeg) ⟨by omega, by omega⟩).1
      have gv := hR.ifr hm hr (u := u.toNatClampNeg) ⟨by omega, by omega⟩ p
      have hto := hR.to hm (u := u.toNatClampNeg) (by omega)
      rw [← eu] at g1 gv hto
      have q := k_ifRolled_ok (G := G) hC hla (by rw [hR.gt, nI_toInt (by omega)]; omega) hR.gn n6 (hR.mover.mpr hm) u p h1
      rw [gv] at q
      exact two_of hM (q.pt ⟨cAt_tr hC _, xS86.put hC.2.2.2.1 (by decide)⟩) (fun m1 _ hm1 => n_ifRolled hm1 hR.z1 n6 hR.z2 hm hR.z3 hR.k6 (by rw [hR.z0, nI_toInt (by omega)]; omega) (Ok.plo hR) u p h1 hto g1) (hI.mono (by omega))
    · have mn := hR.mn
      exact two_rd hC hM (k_ifRolled_no2 hC u p h1 (fun q => hm (hR.mover.mp q))) (n_ifRolled_no2 hM u p h1 (by rw [hR.z1, show n = 0 by omega]; rfl)) rfl (hI.mono (by omega))
  · exact two_rd hC hM (k_ifRolled_no1 u p h1) (n_ifRolled_no1 u p h1 hM) rfl (hI.mono (by omega))
theorem two_bestRoll (hB : b < 16000) (h : StE b mem) : Two G kX3_bestRoll [.ref 0] kX4_bestRoll [.ref 86] mem (b + 31) := by
  obtain ⟨C, M, hC, hM, hI⟩ := h
  obtain ⟨t, n, k, m, hR, hr, hb, hl⟩ := id hI.1
  have hla := hR.g01
  have n6 := hR.n6
  have t60 := hR.t60
  by_cases hm : m < n
  · have q := k_bestRoll_ok (G := G) hC hla (by rw [hR.gt, nI_toInt (by omega)]; omega) hR.gn n6 (hR.mover.mpr hm)
    rw [hR.best hm hr hb hB] at q
    exact two_of hM (q.pt ⟨cAt_tr hC _, xS86.put hC.2.2.2.1 (by decide)⟩) (fun m1 _ hm1 => n_bestRoll hm1 hR.z1 n6 hR.z2 hm hR.z3 hR.k6 (by rw [hR.z0, nI_toInt (by omega)]; omega) (Ok.plo hR) (fun i h1 h2 => hR.to hm h2) (fun i h1 h2 => (hR.roll hm hr ⟨h1, h2⟩).1)) (hI.mono (by omega))
  · have mn := hR.mn
    exact two_rd hC hM (k_bestRoll_no hC (fun q => hm (hR.mover.mp q))) (n_bestRoll_no hM (by rw [hR.z1, show n = 0 by omega]; rfl)) rfl (hI.mono (by omega))
theorem two_quietRolls (h : StE b mem) : Two G kX3_quietRolls [.ref 0] kX4_quietRolls [.ref 86] mem (b + 31) := by
  obtain ⟨C, M, hC, hM, hI⟩ := h
  obtain ⟨t, n, k, m, hR, hr, hb, hl⟩ := id hI.1
  have n6 := hR.n6
  have t60 := hR.t60
  by_cases hm : m < n
  · exact two_rd hC hM (k_quietRolls_ok hC (by rw [hR.gt, nI_toInt (by omega)]; omega) hR.gn n6 (hR.mover.mpr hm)) (n_quietRolls hM hR.z1 n6 hR.z2 hm (Ok.plo hR)) (hR.quiet hm) (hI.mono (by omega))
  · have mn := hR.mn
    exact two_rd hC hM (k_quietRolls_no hC (fun q => hm (hR.mover.mp q))) (n_quietRolls_no hM (by rw [hR.z1, show n = 0 by omega]; rfl)) rfl (hI.mono (by omega))
theorem two_rollsToTop (h : StE b mem) (x : Int32) : Two G kX3_rollsToTop [.ref 0, .int x] kX4_rollsToTop [.ref 86, .int x] mem (b + 31) := by
  obtain ⟨C, M, hC, hM, hI⟩ := h
  obtain ⟨t, n, k, m, hR, hr, hb, hl⟩ := id hI.1
  have n6 := hR.n6
  have t60 := hR.t60
  have q := k_rollsToTop (G := G) hC hR.gt t60 (by rw [hR.gn, nI_toInt (by omega)]; omega) x
  by_cases hx : m_cl (m_z M) x
  · have hx2 := m_cl_lt hR.z1 n6 hx
    have ex := i_nI (x := x) hx2.1
    have ec := i_cl (x := x) hx2.1
    rw [if_pos ((hR.cl x).mp hx)] at q
    have hc : x.toNatClampNeg < n := by omega
    have hF := hR.few hc
    obtain ⟨a, ha⟩ : ∃ a, sFew (k_gm C) t t 1 (lB (g_pl (k_gm C) x.toNatClampNeg)) = a := ⟨_, rfl⟩
    rw [ha] at q hF
    have q2 := n_rollsToTop (G := G) hM hR.z1 n6 hR.z3 hR.k6 hR.z0 t60 (fun s hs => by
      obtain ⟨d1, d2⟩ := hR.dz.1 s hs
      rw [d1, nI_toInt (by omega)]
      omega) hc (by
      obtain ⟨p, p1, p2⟩ := hR.plt x.toNatClampNeg (by omega)
      rw [hR.pl _ (by omega), p2, nI_toInt (by omega)]
      omega) a hF
    rw [← ex] at q2
    exact ⟨a, q.pt ⟨⟨M, hM⟩, q2.imp (fun m2 hm2 => by
      obtain ⟨f, hf⟩ := hm2
      rw [hf]
      exact ⟨C, m_wre M f, cAt_mPut hC hM _, mAt_put hM _, hI.mono (by omega)⟩)⟩⟩
  · rw [if_neg (fun e => hx ((hR.cl x).mpr e))] at q
    exact two_rd hC hM q (n_rollsToTop_no hM x hx) rfl (hI.mono (by omega))
theorem two_append (h : StE b mem) (x : Int32) : Two G kX3_append [.ref 0, .int x] kX4_append [.ref 86, .int x] mem (b + 31) := by
  obtain ⟨C, M, hC, hM, hI⟩ := h
  obtain ⟨i1, i2, i3, i4, i5, i6, i7, i8, i9⟩ := id (hI.mono (b := b + 31) (by omega))
  by_cases h1 : 33 ≤ x.toInt ∧ x.toInt ≤ 126
  · by_cases h2 : k_n C = 60
    · exact two_rd hC hM (k_append_no2 hC h2 x h1) (n_append_no2 hM (by rw [i6, h2]) x h1) rfl (hI.mono (by omega))
    · refine two_of hM (k_append_ok hC (by omega) x h1) (fun m1 _ hm => n_append hm i6 (by omega) x h1) ⟨i1, i2, i3, i4, i5, rfl, ?_, ?_, ?_⟩
      · show k_n C + 1 ≤ 60
        omega
      · show upd (m_bu M) (k_n C) x = upd (k_f C) (k_n C) x
        rw [i8]
      · intro i hi
        have hi : i < k_n C + 1 := hi
        show 33 ≤ (upd (k_f C) (k_n C) x i).toInt ∧ (upd (k_f C) (k_n C) x i).toInt ≤ 126
        by_cases e : i = k_n C
        · rw [e, upd_same]; exact h1
        · rw [upd_ne e]; exact i9 i (by omega)
  · exact two_rd hC hM (k_append_no1 hC x (by omega)) (n_append_no1 x h1 hM) rfl (hI.mono (by omega))
theorem two_clearText (h : StE b mem) : Two G kX3_clearText [.ref 0] kX4_clearText [.ref 86] mem (b + 31) := by
  obtain ⟨C, M, hC, hM, hI⟩ := h
  obtain ⟨i1, i2, i3, i4, i5, i6, i7, i8, i9⟩ := id (hI.mono (b := b + 31) (by omega))
  refine two_of hM (k_clearText hC) (fun m1 _ hm => ?_) (M' := m_wty M 0) ⟨i1, i2, i3, i4, i5, rfl, Nat.zero_le _, i8, fun i hi => absurd hi (Nat.not_lt_zero _)⟩
  have q := n_clearText (G := G) hm
  rw [i6] at q
  exact q
theorem two_errorPosition (h : StE b mem) : Two G kX3_errorPosition [.ref 0] kX4_errorPosition [.ref 86] mem (b + 31) := by
  obtain ⟨C, M, hC, hM, hI⟩ := h
  obtain ⟨i1, i2, i3, i4, i5, i6, i7, i8, i9⟩ := id (hI.mono (b := b + 31) (by omega))
  obtain ⟨e1, e2, e3, e4⟩ := es_at i9 i7 (m_to M)
  rw [← i8] at e1 e2
  obtain ⟨P, hP⟩ : ∃ P, mEs M (k_n C) = P := ⟨_, rfl⟩
  have e2' : P.1.2 = tFE (m_bu M) (k_n C) 0 := by rw [← hP]; exact e2
  have q := k_errorPosition (G := G) hC i7
  rw [← i8, ← e2'] at q
  exact two_of hM (q.dn hC) (fun m1 _ hm => n_errorPosition hm i6 i7 e1 P hP) (M' := mQ M P.2.1 P.2.2 P.1) ⟨i1, i2, i3, i4, i5, i6, i7, i8, i9⟩
theorem two_play (h : StE b mem) : Two G kX3_play [.ref 0] kX4_play [.ref 86] mem (b + 31) := by
  obtain ⟨C, M, hC, hM, hI⟩ := h
  obtain ⟨i1, i2, i3, i4, i5, i6, i7, i8, i9⟩ := id hI
  obtain ⟨e1, e2, e3, e4⟩ := es_at i9 i7 (m_to M)
  rw [← i8] at e1 e2 e3 e4
  obtain ⟨P, hP⟩ : ∃ P, mEs M (k_n C) = P := ⟨_, rfl⟩
  have e2' : P.1.2 = tFE (k_f C) (k_n C) 0 := by rw [← hP, ← i8]; exact e2
  have e3' : P.2.2 ≤ 31 := by rw [← hP]; exact e3
  by_cases h6 : (tFE (k_f C) (k_n C) 0).toInt = -6
  · have e4' : Ms (m_bu M) (k_n C) P.2.1 P.2.2 40 0 0 := by
      rw [← hP]
      exact e4 (by
        have q : (mEs M (k_n C)).1.2.toInt = -6 := by rw [hP, e2']; exact h6
        exact q)
    obtain ⟨r1, r2, r3⟩ := ms_at 40 0 0 b (k_gm C) (m_z M) e4' (Or.inl rfl) i1
    rw [Nat.sub_zero, Nat.sub_zero, i8] at r2 r3
    rw [Nat.sub_zero] at r1
    have hla := i1.g01
    have hW : gW (k_gm C) := by
      obtain ⟨t, n, k, m, hR, _⟩ := i1
      exact hR.gw
    have q := k_play_ok (G := G) hC i2 hla i9 i7 hW h6
    rw [r2] at q
    obtain ⟨j1, j2, j3, j4, j5, j6⟩ := hI.rec (b := b + 31) (by omega) (r3.mono (by omega))
    exact two_of hM q (fun m1 _ hm => n_play hm i3 i2 i6 i7 e1 P hP (by rw [e2']; exact h6) e3' r1 (mPl P.2.1 P.2.2 0 (m_z M)) rfl) ⟨j1, j2, j3, j4, j5, rfl, Nat.zero_le _, i8, fun i hi => absurd hi (Nat.not_lt_zero _)⟩
  · obtain ⟨j1, j2, j3, j4, j5, j6⟩ := id (hI.mono (b := b + 31) (by omega))
    exact two_of hM ((k_play_no hC i7 h6).dn hC) (fun m1 _ hm => n_play_no hm i6 i7 e1 P hP (by rw [e2']; exact h6)) (M' := mQ M P.2.1 P.2.2 P.1) ⟨j1, j2, j3, j4, j5, i6, i7, i8, i9⟩
theorem two_undo (h : StE b mem) : Two G kX3_undo [.ref 0] kX4_undo [.ref 86] mem (b + 31) := by
  obtain ⟨C, M, hC, hM, hI⟩ := h
  obtain ⟨i1, i2, i3, i4, i5, i6⟩ := id (hI.mono (b := b + 31) (by omega))
  by_cases h0 : k_c C = 0
  · exact two_rd hC hM (k_undo_no hC h0) (n_undo_no hM (by rw [i3, h0]; rfl)) rfl (hI.mono (by omega))
  · refine two_of hM (k_undo_ok hC (by omega) i2 (i4 (k_c C - 1) (by omega)).g01) (fun m1 _ hm => ?_) (M' := m_wpm (m_wz M (fOf (m_pa M) (k_c C - 1))) (nI (k_c C - 1))) ⟨i4 (k_c C - 1) (by omega), by show k_c C - 1 ≤ 5; omega, rfl, fun q hq => i4 q (by have hq : q < k_c C - 1 := hq; omega), i5, i6⟩
    have q := n_undo (G := G) (c := k_c C - 1) hm M (by rw [i3, show k_c C - 1 + 1 = k_c C by omega]) (by omega)
    rw [mPut_self hm] at q
    exact q
theorem two_save (h : StE b mem) : Two G kX3_save [.ref 0] kX4_save [.ref 86] mem (b + 31) := by
  obtain ⟨C, M, hC, hM, hI⟩ := h
  obtain ⟨i1, i2, i3, i4, i5, i6⟩ := id (hI.mono (b := b + 31) (by omega))
  obtain ⟨t, n, k, m, hR, hr, hb, hl⟩ := id hI.1
  have q := k_save (G := G) hC hR.g01
  rw [hR.gn] at q
  refine two_of hM q (fun m1 _ hm => ?_) (M' := m_wik (m_wke M (m_z M)) 1) ⟨i1, i2, i3, i4, Or.inr ⟨rfl, rfl, i1⟩, i6⟩
  have q2 := n_save (G := G) hm M
  rw [mPut_self hm, hR.z1] at q2
  exact q2
theorem two_restore (h : StE b mem) : Two G kX3_restore [.ref 0] kX4_restore [.ref 86] mem (b + 31) := by
  obtain ⟨C, M, hC, hM, hI⟩ := h
  obtain ⟨i1, i2, i3, i4, i5, i6⟩ := id hI
  rcases i5 with ⟨s1, s2⟩ | ⟨s1, s2, s3⟩
  · exact two_rd hC hM (k_restore_no hC s1) (n_restore_no hM s2) rfl (hI.mono (by omega))
  · obtain ⟨t, n, k, m, hR, hr, hb, hl⟩ := id s3
    have n6 := hR.n6
    have q := k_restore_ok (G := G) hC s1 i2 i1.g01 s3.g01 (by rw [hR.gn, nI_toInt (by omega)]; omega)
    rw [hR.gn] at q
    refine two_of hM q (fun m1 _ hm => ?_) (M' := m_wz (mRec M (k_c C)) (m_ke M)) (hI.rec (b := b + 31) (by omega) (s3.mono (by omega)))
    have q2 := n_restore (G := G) hm M s2 i3 i2
    rw [mPut_self hm, hR.z1] at q2
    exact q2
end T2
