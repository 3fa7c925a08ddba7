/-! the law's cases: setTop -/
section C3
variable {G : xG} {mem mm M : xM} {T n m u k x y st lo i q e a : Nat} {S V : gS} {v w nc h kd is isS th en r0 : Int32} {d l c t : Nat → Int32} {ce sl : Nat}
abbrev zp1 (d l : Nat → Int32) (x s : Nat) : Prop := x ≤ s ∧ ¬ ((l s).toInt = 0 ∧ (d s).toInt < 0)
abbrev zp2 (c : Nat → Int32) (x i : Nat) : Prop := ¬ (c (6 * i)).toInt < (nI x).toInt
abbrev zT2 (nc : Int32) (e x : Nat) (can : Int32) : List (Nat × Value) := [(0, .float 0), (1, .ref 0), (2, .ref 86), (3, .ref 87), (4, .ref 88), (5, .ref 89), (6, .int nc), (7, .int (nI e)), (15, .int (nI x)), (16, .int can)]
abbrev zT3 (nc : Int32) (e x : Nat) (can : Int32) (i : Nat) : List (Nat × Value) := [(0, .float 0), (1, .ref 0), (2, .ref 86), (3, .ref 87), (4, .ref 88), (5, .ref 89), (6, .int nc), (7, .int (nI e)), (15, .int (nI x)), (16, .int can), (17, .int (nI i))]
theorem sNo_s {p : Nat → Prop} [DecidablePred p] (i : Nat) : sNo p (i + 1) = true ↔ sNo p i = true ∧ ¬ p i := by
  simp only [sNo, Bool.and_eq_true, Bool.not_eq_true', decide_eq_false_iff_not]
theorem can_top (hI : Iv S T n m) (hL : Lw mem S d l c t) (hx : 10 ≤ x ∧ x ≤ 60) : (sNo (zp1 d l x) 61 = true ∧ sNo (zp2 c x) n = true) ↔ ∀ s, x ≤ s → s < T → ¬ g_blk S n s := by
  obtain ⟨b1, b2, hLa, hd, hl, hR⟩ := id hL
  have t60 := hI.t60
  have n6 := hI.n6
  have ex : (nI x).toInt = (x : Int) := nI_toInt (by omega)
  rw [sNo_iff, sNo_iff]
  constructor
  · rintro ⟨h1, h2⟩ s hs1 hs2 hb
    have q : (l s).toInt = 0 ∧ (d s).toInt < 0 := Classical.byContradiction (fun z => h1 s (by omega) ⟨hs1, z⟩)
    rcases hb with z | z | z
    · exact z (by rw [(la_l hI hl hs2).mp q.1]; decide)
    · exact (up_d hI hd hs2).mp z q.2
    · refine z ?_
      rw [sOn_z n (fun i hi e => ?_)]
      · decide
      · have r := Classical.not_not.mp (h2 i hi)
        rw [hR.pl i (by omega), e, ex, nI_toInt (by omega)] at r
        omega
  · intro hf
    refine ⟨fun s hs hp => ?_, fun i hi hp => ?_⟩
    · by_cases z : s < T
      · have f := hf s hp.1 z
        refine hp.2 ⟨(la_l hI hl z).mpr (i_z.mp (Classical.not_not.mp (fun y => f (Or.inl y)))), ?_⟩
        exact Classical.not_not.mp (fun y => f (Or.inr (Or.inl ((up_d hI hd z).mpr y))))
      · exact hp.2 ⟨by rw [hl.out hI (by omega) hs]; decide, by rw [hd.out hI (by omega) hs]; decide⟩
    · obtain ⟨pi, pi1⟩ := hI.plN (i := i) (by omega)
      have hp2 : ¬ (c (6 * i)).toInt < (nI x).toInt := hp
      rw [hR.pl i (by omega), pi, ex, nI_toInt (by omega)] at hp2
      refine hf _ (by omega) pi1 (Or.inr (Or.inr (fun z => ?_)))
      exact sOn_0 n n6 z i hi pi
theorem z_topE (hW : Wd mem S) (hL : Lw mem S d l c t) (hI : Iv S T n m) (hnc : nc = sCn (g_up (g_le S)) T) (hk6 : cN (g_up (g_le S)) T ≤ 6) (hx : 10 ≤ x ∧ x ≤ 60) (hcs : ce + 1 ≤ 600000 ∧ sl + 6 ≤ 7302249) (kk : ∀ mm nc', StX mm nc' n → E G kL_law lR (ce + 1) (sl + 6) mm 935 (x_L (zE nc' e 1)) []) : E G kL_law lR ce sl mem 416 (x_L (zT2 nc e x (b2i (sNo (zp1 d l x) 61 = true ∧ sNo (zp2 c x) n = true)))) [] := by
  obtain ⟨b1, b2, hLa, hd, hl, hR⟩ := id hL
  have t60 := hI.t60
  have hcs2 : ce ≤ 600000 ∧ sl ≤ 7302249 := by omega
  have hiff := can_top hI hL hx
  obtain ⟨v0, a0⟩ := hW.a0
  have ht0 : t 0 = nI T := hR.t0.trans hI.gt
  by_cases hc : sNo (zp1 d l x) 61 = true ∧ sNo (zp2 c x) n = true
  · rw [b2i_t hc]
    have hf := hiff.mp hc
    have w1 := w_setTop_ok (G := G) hW hI hx hf
    obtain ⟨hI2, hcar⟩ := hI.top hx hf
    have hR2 : Rct (g_wO S (nI x) (g_cl S) (g_mv S) (g_ro S) (g_lo S)) c (upd t 0 (nI x)) 0 0 0 := by
      refine ⟨hR.pl, hR.tp, hR.rs, hR.tl, hR.lm, hR.sl, upd_same, (upd_ne (by decide)).trans hR.t1, (upd_ne (by decide)).trans hR.t2, ?_, ?_, (upd_ne (by decide)).trans hR.t5, (upd_ne (by decide)).trans hR.t6⟩
      · rw [upd_ne (by decide)]; exact hR.t3
      · rw [upd_ne (by decide)]; exact hR.t4
    have hck : cN (g_up (g_le S)) x ≤ 6 := by
      have e1 := hcar
      rw [sCn_nI, sCn_nI] at e1
      have := nI_inj (by have := cN_le (g_up (g_le S)) T; omega) (by have := cN_le (g_up (g_le S)) x; omega) e1
      omega
    refine E_aload_n dL_law_416 (by rfl) ?_
    refine E_iload dL_law_417 (by rfl) ?_
    refine cp_L_law_419 (by assumption) (Nat.le_of_ble_eq_true rfl) hcs2 w1 (fun m419 h419 => ?_)
    obtain ⟨g1, g2⟩ := h419
    have c2 := (g2 89 (by decide)).trans hLa.2
    refine E_iload dL_law_422 (by rfl) ?_
    refine E_if_eq (tgt := 434) dL_law_424 (by decide) (fun q424 => ?_) (fun q424 => ?_)
    · exact absurd q424 (by decide)
    · refine E_aload dL_law_427 (by rfl) ?_
      refine E_iconst (v := 0) dL_law_429 (by decide) ?_
      refine E_rd dL_law_430 (by assumption) (show (0 : Int32) = nI 0 from rfl) (by omega) (by first | decide | omega) ht0 ?_
      refine E_goto (tgt := 436) dL_law_431 (by decide) ?_
      refine E_icmp_ne (n := _) rfl (tgt := 443) dL_law_436 (by decide) (fun q436 => ?_) (fun q436 => ?_)
      · exact absurd rfl q436
      · refine E_iconst (v := 1) dL_law_439 (by decide) ?_
        refine E_goto (tgt := 444) dL_law_440 (by decide) ?_
        refine E_istore dL_law_444 (Nat.le_of_ble_eq_true rfl) (by rfl) ?_
        refine E_aload dL_law_446 (by rfl) ?_
        refine E_iconst (v := 0) dL_law_448 (by decide) ?_
        refine E_iload dL_law_449 (by rfl) ?_
        refine E_if_eq (tgt := 459) dL_law_451 (by decide) (fun q451 => ?_) (fun q451 => ?_)
        · exact absurd q451 (by decide)
        · refine E_iload dL_law_454 (by rfl) ?_
          refine E_goto (tgt := 463) dL_law_456 (by decide) ?_
          refine E_wr dL_law_463 (by assumption) (show (0 : Int32) = nI 0 from rfl) (by omega) (by first | decide | omega) ?_
          refine E_goto (tgt := 935) dL_law_464 (by decide) ?_
          refine E_widen (Nat.le_succ ce) (by omega) (E_loc (zE nc e 1) ⟨rfl, rfl, rfl, rfl, rfl, rfl, rfl, rfl, rfl, trivial⟩ (kk _ _ ⟨g_wO S (nI x) (g_cl S) (g_mv S) (g_ro S) (g_lo S), x, m, d, l, c, upd t 0 (nI x), g1.fr (rc := 89) (rt := 89) Fr.setc (by decide) (by decide), ?_, hI2, by rw [← hcar]; exact hnc, hck⟩))
          exact ⟨x_get_set ((g2 86 (by decide)).trans b1) (by decide), x_get_set ((g2 87 (by decide)).trans b2) (by decide), ⟨x_get_set ((g2 88 (by decide)).trans hLa.1) (by decide), x_get_same c2⟩, hd, hl, hR2⟩
  · rw [b2i_f hc]
    have hf : ∃ s, x ≤ s ∧ s < T ∧ g_blk S n s := Classical.byContradiction (fun z => hc (hiff.mpr (fun s h1 h2 h3 => z ⟨s, h1, h2, h3⟩)))
    have w1 := w_setTop_no (G := G) hW hI hx hf
    refine E_aload_n dL_law_416 (by rfl) ?_
    refine E_iload dL_law_417 (by rfl) ?_
    refine cp_L_law_419 (by assumption) (Nat.le_of_ble_eq_true rfl) hcs2 w1 (fun m419 h419 => ?_)
    obtain ⟨g1, g2⟩ := h419
    have c2 := (g2 89 (by decide)).trans hLa.2
    refine E_iload dL_law_422 (by rfl) ?_
    refine E_if_eq (tgt := 434) dL_law_424 (by decide) (fun q424 => ?_) (fun q424 => ?_)
    · refine E_bipush (v := (-3)) dL_law_434 (by decide) ?_
      refine E_icmp_ne (n := (-3)) (by decide) (tgt := 443) dL_law_436 (by decide) (fun q436 => ?_) (fun q436 => ?_)
      · exact absurd rfl q436
      · refine E_iconst (v := 1) dL_law_439 (by decide) ?_
        refine E_goto (tgt := 444) dL_law_440 (by decide) ?_
        refine E_istore dL_law_444 (Nat.le_of_ble_eq_true rfl) (by rfl) ?_
        refine E_aload dL_law_446 (by rfl) ?_
        refine E_iconst (v := 0) dL_law_448 (by decide) ?_
        refine E_iload dL_law_449 (by rfl) ?_
        refine E_if_eq (tgt := 459) dL_law_451 (by decide) (fun q451 => ?_) (fun q451 => ?_)
        · refine E_aload dL_law_459 (by rfl) ?_
          refine E_iconst (v := 0) dL_law_461 (by decide) ?_
          refine E_rd dL_law_462 (by assumption) (show (0 : Int32) = nI 0 from rfl) (by omega) (by first | decide | omega) rfl ?_
          refine E_wr dL_law_463 (by assumption) (show (0 : Int32) = nI 0 from rfl) (by omega) (by first | decide | omega) ?_
          refine E_mem (mem' := m419) (by rw [upd_self]; exact x_set_self c2) ?_
          refine E_goto (tgt := 935) dL_law_464 (by decide) ?_
          refine E_widen (Nat.le_succ ce) (by omega) (E_loc (zE nc e 1) ⟨rfl, rfl, rfl, rfl, rfl, rfl, rfl, rfl, rfl, trivial⟩ (kk _ _ ⟨S, T, m, d, l, c, t, g1, hL.s86 g2, hI, hnc, hk6⟩))
        · exact absurd rfl q451
    · exact absurd rfl q424
theorem z_topM (hW : Wd mem S) (hL : Lw mem S d l c t) (hI : Iv S T n m) (hnc : nc = sCn (g_up (g_le S)) T) (hk6 : cN (g_up (g_le S)) T ≤ 6) (ha : a < 51) (hcs : ce + 1 ≤ 600000 ∧ sl + 6 ≤ 7302249) (kk : ∀ mm nc', StX mm nc' n → E G kL_law lR (ce + 1) (sl + 6) mm 935 (x_L (zE nc' e 1)) []) : E G kL_law lR ce sl mem 324 (x_L (zS nc e h st)) [.int (nI a), .int 10] := by
  obtain ⟨b1, b2, ⟨b3, b4⟩, hd, hl, hR⟩ := id hL
  have t60 := hI.t60
  have n6 := hI.n6
  obtain ⟨x, hx⟩ : ∃ x, x = 10 + a := ⟨_, rfl⟩
  have ex : (nI x).toInt = (x : Int) := nI_toInt (by omega)
  have en : (nI n).toInt = (n : Int) := nI_toInt (by omega)
  have ht1 : t 1 = nI n := hR.t1.trans hI.gc
  have e61 : (61 : Int32).toInt = 61 := by decide
  have two : E G kL_law lR ce sl mem 373 (x_L (zT2 nc e x (b2i (sNo (zp1 d l x) 61 = true)))) [] := by
    have loop : ∀ di i : Nat, n < i + di → i ≤ n → E G kL_law lR ce sl (mem) 376 (x_L [(0, .float 0), (1, .ref 0), (2, .ref 86), (3, .ref 87), (4, .ref 88), (5, .ref 89), (6, .int nc), (7, .int (nI e)), (15, .int (nI x)), (16, .int (b2i (sNo (zp1 d l x) 61 = true ∧ sNo (zp2 c x) i = true))), (17, .int (nI i))]) [] := by
      intro di
      induction di with
      | zero => intro i hi1 hi2; exact absurd hi1 (by omega)
      | succ di ihi =>
        intro i hi1 hi2
        have ei : (nI i).toInt = (i : Int) := nI_toInt (by omega)
        have eci : (nI i).toNatClampNeg = i := nI_clamp (by omega)
        have hs := sNo_s (p := zp2 c x) i
        refine E_iload dL_law_376 (by rfl) ?_
        refine E_aload dL_law_378 (by rfl) ?_
        refine E_iconst (v := 1) dL_law_380 (by decide) ?_
        refine E_rd dL_law_381 (by assumption) (show (1 : Int32) = nI 1 from rfl) (by omega) (by first | decide | omega) ht1 ?_
        refine E_icmp_ge (n := _) rfl (tgt := 416) dL_law_382 (by decide) (fun q382 => ?_) (fun q382 => ?_)
        · obtain rfl : i = n := by omega
          exact E_loc (zT2 nc e x (b2i (sNo (zp1 d l x) 61 = true ∧ sNo (zp2 c x) i = true))) ⟨rfl, rfl, rfl, rfl, rfl, rfl, rfl, rfl, rfl, rfl, trivial⟩ (z_topE hW hL hI hnc hk6 (by omega) hcs kk)
        · refine E_iload dL_law_385 (by rfl) ?_
          refine E_if_eq (tgt := 407) dL_law_387 (by decide) (fun q387 => ?_) (fun q387 => ?_)
          · rw [b2i_T0] at q387
            refine E_iconst (v := 0) dL_law_407 (by decide) ?_
            refine E_istore dL_law_408 (Nat.le_of_ble_eq_true rfl) (by rfl) ?_
            refine E_iinc (d := 1) dL_law_410 (by rfl) (by decide) (Nat.le_of_ble_eq_true rfl) (by rfl) ?_
            refine E_goto (tgt := 376) dL_law_413 (by decide) ?_
            exact E_loc [(0, .float 0), (1, .ref 0), (2, .ref 86), (3, .ref 87), (4, .ref 88), (5, .ref 89), (6, .int nc), (7, .int (nI e)), (15, .int (nI x)), (16, .int (b2i (sNo (zp1 d l x) 61 = true ∧ sNo (zp2 c x) (i + 1) = true))), (17, .int (nI (i + 1)))] ⟨rfl, rfl, rfl, rfl, rfl, rfl, rfl, rfl, rfl, x_i (by first | exact (b2i_t ⟨q387.1, hs.mpr ⟨q387.2, fun z => z (by omega)⟩⟩).symm | exact (b2i_f (fun z => (hs.mp z.2).2 (by omega))).symm | exact (b2i_f (fun z => q387 ⟨z.1, (hs.mp z.2).1⟩)).symm), x_i (by first | exact nI_1 _ | decide), trivial⟩ (ihi (i + 1) (by omega) (by omega))
          · rw [b2i_T0] at q387; have q387 := Classical.not_not.mp q387
            refine E_aload dL_law_390 (by rfl) ?_
            refine E_bipush (v := 6) dL_law_392 (by decide) ?_
            refine E_iload dL_law_394 (by rfl) ?_
            refine E_imul dL_law_396 ?_
            refine E_rd dL_law_397 (by assumption) (ix0 i) (by omega) (by first | decide | omega) rfl ?_
            refine E_iload dL_law_398 (by rfl) ?_
            refine E_icmp_ge (n := _) rfl (tgt := 407) dL_law_400 (by decide) (fun q400 => ?_) (fun q400 => ?_)
            · refine E_iconst (v := 0) dL_law_407 (by decide) ?_
              refine E_istore dL_law_408 (Nat.le_of_ble_eq_true rfl) (by rfl) ?_
              refine E_iinc (d := 1) dL_law_410 (by rfl) (by decide) (Nat.le_of_ble_eq_true rfl) (by rfl) ?_
              refine E_goto (tgt := 376) dL_law_413 (by decide) ?_
              exact E_loc [(0, .float 0), (1, .ref 0), (2, .ref 86), (3, .ref 87), (4, .ref 88), (5, .ref 89), (6, .int nc), (7, .int (nI e)), (15, .int (nI x)), (16, .int (b2i (sNo (zp1 d l x) 61 = true ∧ sNo (zp2 c x) (i + 1) = true))), (17, .int (nI (i + 1)))] ⟨rfl, rfl, rfl, rfl, rfl, rfl, rfl, rfl, rfl, x_i (by first | exact (b2i_t ⟨q387.1, hs.mpr ⟨q387.2, fun z => z (by omega)⟩⟩).symm | exact (b2i_f (fun z => (hs.mp z.2).2 (by omega))).symm | exact (b2i_f (fun z => q387 ⟨z.1, (hs.mp z.2).1⟩)).symm), x_i (by first | exact nI_1 _ | decide), trivial⟩ (ihi (i + 1) (by omega) (by omega))
            · refine E_iconst (v := 1) dL_law_403 (by decide) ?_
              refine E_goto (tgt := 408) dL_law_404 (by decide) ?_
              refine E_istore dL_law_408 (Nat.le_of_ble_eq_true rfl) (by rfl) ?_
              refine E_iinc (d := 1) dL_law_410 (by rfl) (by decide) (Nat.le_of_ble_eq_true rfl) (by rfl) ?_
              refine E_goto (tgt := 376) dL_law_413 (by decide) ?_
              exact E_loc [(0, .float 0), (1, .ref 0), (2, .ref 86), (3, .ref 87), (4, .ref 88), (5, .ref 89), (6, .int nc), (7, .int (nI e)), (15, .int (nI x)), (16, .int (b2i (sNo (zp1 d l x) 61 = true ∧ sNo (zp2 c x) (i + 1) = true))), (17, .int (nI (i + 1)))] ⟨rfl, rfl, rfl, rfl, rfl, rfl, rfl, rfl, rfl, x_i (by first | exact (b2i_t ⟨q387.1, hs.mpr ⟨q387.2, fun z => z (by omega)⟩⟩).symm | exact (b2i_f (fun z => (hs.mp z.2).2 (by omega))).symm | exact (b2i_f (fun z => q387 ⟨z.1, (hs.mp z.2).1⟩)).symm), x_i (by first | exact nI_1 _ | decide), trivial⟩ (ihi (i + 1) (by omega) (by omega))
    refine E_iconst (v := 0) dL_law_373 (by decide) ?_
    refine E_istore dL_law_374 (Nat.le_of_ble_eq_true rfl) (by rfl) ?_
    exact E_loc (zT3 nc e x (b2i (sNo (zp1 d l x) 61 = true ∧ sNo (zp2 c x) 0 = true)) 0) ⟨rfl, rfl, rfl, rfl, rfl, rfl, rfl, rfl, rfl, x_i (b2i_c ⟨fun z => ⟨z, rfl⟩, fun z => z.1⟩), rfl, trivial⟩ (loop (n + 1) 0 (by omega) (by omega))
  have loop : ∀ di i : Nat, 61 < i + di → i ≤ 61 → (x ≤ i) → E G kL_law lR ce sl (mem) 334 (x_L [(0, .float 0), (1, .ref 0), (2, .ref 86), (3, .ref 87), (4, .ref 88), (5, .ref 89), (6, .int nc), (7, .int (nI e)), (15, .int (nI x)), (16, .int (b2i (sNo (zp1 d l x) i = true))), (17, .int (nI i))]) [] := by
    intro di
    induction di with
    | zero => intro i hi1 hi2 _; exact absurd hi1 (by omega)
    | succ di ihi =>
      intro i hi1 hi2 hinv
      have ei : (nI i).toInt = (i : Int) := nI_toInt (by omega)
      have eci : (nI i).toNatClampNeg = i := nI_clamp (by omega)
      have hs := sNo_s (p := zp1 d l x) i
      refine E_iload dL_law_334 (by rfl) ?_
      refine E_bipush (v := 61) dL_law_336 (by decide) ?_
      refine E_icmp_ge (n := 61) (by decide) (tgt := 373) dL_law_338 (by decide) (fun q338 => ?_) (fun q338 => ?_)
      · obtain rfl : i = 61 := by omega
        exact E_loc (zT2 nc e x (b2i (sNo (zp1 d l x) 61 = true))) ⟨rfl, rfl, rfl, rfl, rfl, rfl, rfl, rfl, rfl, rfl, trivial⟩ two
      · refine E_iload dL_law_341 (by rfl) ?_
        refine E_if_eq (tgt := 364) dL_law_343 (by decide) (fun q343 => ?_) (fun q343 => ?_)
        · rw [b2i_T0] at q343
          refine E_iconst (v := 0) dL_law_364 (by decide) ?_
          refine E_istore dL_law_365 (Nat.le_of_ble_eq_true rfl) (by rfl) ?_
          refine E_iinc (d := 1) dL_law_367 (by rfl) (by decide) (Nat.le_of_ble_eq_true rfl) (by rfl) ?_
          refine E_goto (tgt := 334) dL_law_370 (by decide) ?_
          exact E_loc [(0, .float 0), (1, .ref 0), (2, .ref 86), (3, .ref 87), (4, .ref 88), (5, .ref 89), (6, .int nc), (7, .int (nI e)), (15, .int (nI x)), (16, .int (b2i (sNo (zp1 d l x) (i + 1) = true))), (17, .int (nI (i + 1)))] ⟨rfl, rfl, rfl, rfl, rfl, rfl, rfl, rfl, rfl, x_i (by first | exact (b2i_t (hs.mpr ⟨q343, fun z => z.2 ⟨q350, by omega⟩⟩)).symm | exact (b2i_f (fun z => (hs.mp z).2 ⟨hinv, fun y => by omega⟩)).symm | exact (b2i_f (fun z => q343 (hs.mp z).1)).symm), x_i (by first | exact nI_1 _ | decide), trivial⟩ (ihi (i + 1) (by omega) (by omega) (by omega))
        · rw [b2i_T0] at q343; have q343 := Classical.not_not.mp q343
          refine E_aload_n dL_law_346 (by rfl) ?_
          refine E_iload dL_law_347 (by rfl) ?_
          refine E_rd dL_law_349 (by assumption) rfl (by omega) (by first | decide | omega) rfl ?_
          refine E_if_ne (tgt := 364) dL_law_350 (by decide) (fun q350 => ?_) (fun q350 => ?_)
          · refine E_iconst (v := 0) dL_law_364 (by decide) ?_
            refine E_istore dL_law_365 (Nat.le_of_ble_eq_true rfl) (by rfl) ?_
            refine E_iinc (d := 1) dL_law_367 (by rfl) (by decide) (Nat.le_of_ble_eq_true rfl) (by rfl) ?_
            refine E_goto (tgt := 334) dL_law_370 (by decide) ?_
            exact E_loc [(0, .float 0), (1, .ref 0), (2, .ref 86), (3, .ref 87), (4, .ref 88), (5, .ref 89), (6, .int nc), (7, .int (nI e)), (15, .int (nI x)), (16, .int (b2i (sNo (zp1 d l x) (i + 1) = true))), (17, .int (nI (i + 1)))] ⟨rfl, rfl, rfl, rfl, rfl, rfl, rfl, rfl, rfl, x_i (by first | exact (b2i_t (hs.mpr ⟨q343, fun z => z.2 ⟨q350, by omega⟩⟩)).symm | exact (b2i_f (fun z => (hs.mp z).2 ⟨hinv, fun y => by omega⟩)).symm | exact (b2i_f (fun z => q343 (hs.mp z).1)).symm), x_i (by first | exact nI_1 _ | decide), trivial⟩ (ihi (i + 1) (by omega) (by omega) (by omega))
          · refine E_aload_n dL_law_353 (by rfl) ?_
            refine E_iload dL_law_354 (by rfl) ?_
            refine E_rd dL_law_356 (by assumption) rfl (by omega) (by first | decide | omega) rfl ?_
            refine E_if_ge (tgt := 364) dL_law_357 (by decide) (fun q357 => ?_) (fun q357 => ?_)
            · refine E_iconst (v := 0) dL_law_364 (by decide) ?_
              refine E_istore dL_law_365 (Nat.le_of_ble_eq_true rfl) (by rfl) ?_
              refine E_iinc (d := 1) dL_law_367 (by rfl) (by decide) (Nat.le_of_ble_eq_true rfl) (by rfl) ?_
              refine E_goto (tgt := 334) dL_law_370 (by decide) ?_
              exact E_loc [(0, .float 0), (1, .ref 0), (2, .ref 86), (3, .ref 87), (4, .ref 88), (5, .ref 89), (6, .int nc), (7, .int (nI e)), (15, .int (nI x)), (16, .int (b2i (sNo (zp1 d l x) (i + 1) = true))), (17, .int (nI (i + 1)))] ⟨rfl, rfl, rfl, rfl, rfl, rfl, rfl, rfl, rfl, x_i (by first | exact (b2i_t (hs.mpr ⟨q343, fun z => z.2 ⟨q350, by omega⟩⟩)).symm | exact (b2i_f (fun z => (hs.mp z).2 ⟨hinv, fun y => by omega⟩)).symm | exact (b2i_f (fun z => q343 (hs.mp z).1)).symm), x_i (by first | exact nI_1 _ | decide), trivial⟩ (ihi (i + 1) (by omega) (by omega) (by omega))
            · refine E_iconst (v := 1) dL_law_360 (by decide) ?_
              refine E_goto (tgt := 365) dL_law_361 (by decide) ?_
              refine E_istore dL_law_365 (Nat.le_of_ble_eq_true rfl) (by rfl) ?_
              refine E_iinc (d := 1) dL_law_367 (by rfl) (by decide) (Nat.le_of_ble_eq_true rfl) (by rfl) ?_
              refine E_goto (tgt := 334) dL_law_370 (by decide) ?_
              exact E_loc [(0, .float 0), (1, .ref 0), (2, .ref 86), (3, .ref 87), (4, .ref 88), (5, .ref 89), (6, .int nc), (7, .int (nI e)), (15, .int (nI x)), (16, .int (b2i (sNo (zp1 d l x) (i + 1) = true))), (17, .int (nI (i + 1)))] ⟨rfl, rfl, rfl, rfl, rfl, rfl, rfl, rfl, rfl, x_i (by first | exact (b2i_t (hs.mpr ⟨q343, fun z => z.2 ⟨q350, by omega⟩⟩)).symm | exact (b2i_f (fun z => (hs.mp z).2 ⟨hinv, fun y => by omega⟩)).symm | exact (b2i_f (fun z => q343 (hs.mp z).1)).symm), x_i (by first | exact nI_1 _ | decide), trivial⟩ (ihi (i + 1) (by omega) (by omega) (by omega))
  have hs0 : sNo (zp1 d l x) x = true := (sNo_iff x).mpr (fun s hs z => by have := z.1; omega)
  refine E_iadd dL_law_324 ?_
  refine E_eqi (show (10 : Int32) + nI a = nI x by rw [hx]; exact nI_add 10 a) ?_
  refine E_istore dL_law_325 (Nat.le_of_ble_eq_true rfl) (by rfl) ?_
  refine E_iconst (v := 1) dL_law_327 (by decide) ?_
  refine E_istore dL_law_328 (Nat.le_of_ble_eq_true rfl) (by rfl) ?_
  refine E_iload dL_law_330 (by rfl) ?_
  refine E_istore dL_law_332 (Nat.le_of_ble_eq_true rfl) (by rfl) ?_
  exact E_loc (zT3 nc e x (b2i (sNo (zp1 d l x) x = true)) x) ⟨rfl, rfl, rfl, rfl, rfl, rfl, rfl, rfl, rfl, x_i (b2i_t hs0).symm, rfl, trivial⟩ (loop (61 + 1) x (by omega) (by omega) (Nat.le_refl _))
theorem z_top (hW : Wd mem S) (hL : Lw mem S d l c t) (hI : Iv S T n m) (hnc : nc = sCn (g_up (g_le S)) T) (hk6 : cN (g_up (g_le S)) T ≤ 6) (hcs : ce + 1 ≤ 600000 ∧ sl + 6 ≤ 7302249) (kk : ∀ mm nc', StX mm nc' n → E G kL_law lR (ce + 1) (sl + 6) mm 935 (x_L (zE nc' e 1)) []) : E G kL_law lR ce sl mem 295 (x_L (zS nc e h st)) [] := by
  have hcs2 : ce ≤ 600000 ∧ sl ≤ 7302249 := by omega
  obtain ⟨r1, hr1, hre1⟩ := y_low_nI (v := h >>> (12 &&& 31)) (n := 51) (by decide) (by decide)
  obtain ⟨r2, hr2, hre2⟩ := y_low_nI (v := h >>> (12 &&& 31)) (n := 12) (by decide) (by decide)
  have lo1 := y_low (G := G) (mem := mem) (h >>> (12 &&& 31)) 51 (by decide)
  have lo2 := y_low (G := G) (mem := mem) (h >>> (12 &&& 31)) 12 (by decide)
  rw [show (51 : Int32) = nI 51 from rfl, hre1] at lo1
  rw [show (12 : Int32) = nI 12 from rfl, show nI 12 = (12 : Int32) from rfl] at lo2
  have hre2' : sLow (h >>> (12 &&& 31)) 12 = nI r2 := hre2
  rw [hre2'] at lo2
  refine E_bipush (v := 10) dL_law_295 (by decide) ?_
  refine E_iload dL_law_297 (by rfl) ?_
  refine E_bipush (v := 12) dL_law_299 (by decide) ?_
  refine E_ishr dL_law_301 ?_
  refine E_iload dL_law_302 (by rfl) ?_
  refine E_bipush (v := 25) dL_law_304 (by decide) ?_
  refine E_ishr dL_law_306 ?_
  refine E_iconst (v := 2) dL_law_307 (by decide) ?_
  refine cs_L_law_308 (Nat.le_of_ble_eq_true rfl) hcs2 (y_low (h >>> (25 &&& 31)) 2 (by decide)) ?_
  refine E_if_ne (tgt := 319) dL_law_311 (by decide) (fun q311 => ?_) (fun q311 => ?_)
  · refine E_bipush (v := 12) dL_law_319 (by decide) ?_
    refine cs_L_law_321 (Nat.le_of_ble_eq_true rfl) hcs2 (by first | exact lo1 | exact lo2) ?_
    first | exact E_loc (zS nc e h st) ⟨rfl, rfl, rfl, rfl, rfl, rfl, rfl, rfl, rfl, rfl, trivial⟩ (z_topM hW hL hI hnc hk6 (show r1 < 51 by omega) hcs kk) | exact E_loc (zS nc e h st) ⟨rfl, rfl, rfl, rfl, rfl, rfl, rfl, rfl, rfl, rfl, trivial⟩ (z_topM hW hL hI hnc hk6 (show r2 < 51 by omega) hcs kk)
  · refine E_bipush (v := 51) dL_law_314 (by decide) ?_
    refine E_goto (tgt := 321) dL_law_316 (by decide) ?_
    refine cs_L_law_321 (Nat.le_of_ble_eq_true rfl) hcs2 (by first | exact lo1 | exact lo2) ?_
    first | exact E_loc (zS nc e h st) ⟨rfl, rfl, rfl, rfl, rfl, rfl, rfl, rfl, rfl, rfl, trivial⟩ (z_topM hW hL hI hnc hk6 (show r1 < 51 by omega) hcs kk) | exact E_loc (zS nc e h st) ⟨rfl, rfl, rfl, rfl, rfl, rfl, rfl, rfl, rfl, rfl, trivial⟩ (z_topM hW hL hI hnc hk6 (show r2 < 51 by omega) hcs kk)
end C3
