/-! the law: what the class tells of its steps, and in all -/
section GB
variable {G : xG} {mem mm m' : xM} {rc rt T m m0 i j n s p k x g : Nat} {c t d l : Nat → Int32} {S : gS} {C : cS} {lf ro v nc : Int32} {R : Option Value → xM → Prop} {ce sl : Nat}
abbrev gL8z (nc : Int32) (k : Nat) (f : Int32) : List (Nat × Value) := [(0, .ref 0), (1, .ref 86), (2, .ref 87), (3, .ref 88), (4, .ref 89), (5, .int nc), (6, .int (nI k)), (7, .int f), (8, .int 0)]
theorem y_step1 (hI : Iv S T n m) (hL : Lw mem S d l c t) (kk : E G kL_game R ce sl mem 283 (x_L [(0, .ref 0), (1, .ref 86), (2, .ref 87), (3, .ref 88), (4, .ref 89), (5, .int nc), (6, .int (nI s)), (7, .int (sPl (fun i => (c (6 * i)).toInt = (nI s).toInt) n)), (8, .int (sCn (fun k => (d k).toInt = (nI s).toInt) 61))]) []) : E G kL_game R ce sl mem 199 (x_L (gL6 nc s)) [] := by
  have n6 := hI.n6
  have en : (nI n).toInt = (n : Int) := nI_toInt (by omega)
  obtain ⟨b1, b2, ⟨b3, b4⟩, hd, hl, hR⟩ := id hL
  have ht1 : t 1 = nI n := hR.t1.trans hI.gc
  have ends : E G kL_game R ce sl mem 248 (x_L (gL8z nc s (sPl (fun i => (c (6 * i)).toInt = (nI s).toInt) n))) [] := by
    have e61 : (61 : Int32).toInt = 61 := by decide
    have loop : ∀ di i : Nat, 61 < i + di → i ≤ 61 → E G kL_game R ce sl (mem) 251 (x_L [(0, .ref 0), (1, .ref 86), (2, .ref 87), (3, .ref 88), (4, .ref 89), (5, .int nc), (6, .int (nI s)), (7, .int (sPl (fun i => (c (6 * i)).toInt = (nI s).toInt) n)), (8, .int (sCn (fun k => (d k).toInt = (nI s).toInt) i)), (9, .int (nI i))]) [] := by
      intro di
      induction di with
      | zero => intro i hi1 hi2; exact absurd hi1 (by omega)
      | succ di ihi =>
        intro i hi1 hi2
        have ei : (nI i).toInt = (i : Int) := nI_toInt (by omega)
        have eci : (nI i).toNatClampNeg = i := nI_clamp (by omega)
        refine E_iload dL_game_251 (by rfl) ?_
        refine E_bipush (v := 61) dL_game_253 (by decide) ?_
        refine E_icmp_ge (n := 61) (by decide) (tgt := 283) dL_game_255 (by decide) (fun q255 => ?_) (fun q255 => ?_)
        · obtain rfl : i = 61 := by omega
          exact E_loc [(0, .ref 0), (1, .ref 86), (2, .ref 87), (3, .ref 88), (4, .ref 89), (5, .int nc), (6, .int (nI s)), (7, .int (sPl (fun i => (c (6 * i)).toInt = (nI s).toInt) n)), (8, .int (sCn (fun k => (d k).toInt = (nI s).toInt) 61))] ⟨rfl, rfl, rfl, rfl, rfl, rfl, rfl, rfl, rfl, trivial⟩ kk
        · refine E_iload dL_game_258 (by rfl) ?_
          refine E_aload_n dL_game_260 (by rfl) ?_
          refine E_iload dL_game_261 (by rfl) ?_
          refine E_rd dL_game_263 (by assumption) rfl (by omega) (by first | decide | omega) rfl ?_
          refine E_iload dL_game_264 (by rfl) ?_
          refine E_icmp_ne (n := _) rfl (tgt := 273) dL_game_266 (by decide) (fun q266 => ?_) (fun q266 => ?_)
          · refine E_iconst (v := 0) dL_game_273 (by decide) ?_
            refine E_iadd dL_game_274 ?_
            refine E_istore dL_game_275 (Nat.le_of_ble_eq_true rfl) (by rfl) ?_
            refine E_iinc (d := 1) dL_game_277 (by rfl) (by decide) (Nat.le_of_ble_eq_true rfl) (by rfl) ?_
            refine E_goto (tgt := 251) dL_game_280 (by decide) ?_
            exact E_loc [(0, .ref 0), (1, .ref 86), (2, .ref 87), (3, .ref 88), (4, .ref 89), (5, .int nc), (6, .int (nI s)), (7, .int (sPl (fun i => (c (6 * i)).toInt = (nI s).toInt) n)), (8, .int (sCn (fun k => (d k).toInt = (nI s).toInt) (i + 1))), (9, .int (nI (i + 1)))] ⟨rfl, rfl, rfl, rfl, rfl, rfl, rfl, rfl, x_i (by simp only [sCn]; first | rw [if_pos (show (d i).toInt = (nI s).toInt by omega)] | rw [if_neg (show ¬ (d i).toInt = (nI s).toInt by omega), Int32.add_zero]), x_i (by first | exact nI_1 _ | decide), trivial⟩ (ihi (i + 1) (by omega) (by omega))
          · refine E_iconst (v := 1) dL_game_269 (by decide) ?_
            refine E_goto (tgt := 274) dL_game_270 (by decide) ?_
            refine E_iadd dL_game_274 ?_
            refine E_istore dL_game_275 (Nat.le_of_ble_eq_true rfl) (by rfl) ?_
            refine E_iinc (d := 1) dL_game_277 (by rfl) (by decide) (Nat.le_of_ble_eq_true rfl) (by rfl) ?_
            refine E_goto (tgt := 251) dL_game_280 (by decide) ?_
            exact E_loc [(0, .ref 0), (1, .ref 86), (2, .ref 87), (3, .ref 88), (4, .ref 89), (5, .int nc), (6, .int (nI s)), (7, .int (sPl (fun i => (c (6 * i)).toInt = (nI s).toInt) n)), (8, .int (sCn (fun k => (d k).toInt = (nI s).toInt) (i + 1))), (9, .int (nI (i + 1)))] ⟨rfl, rfl, rfl, rfl, rfl, rfl, rfl, rfl, x_i (by simp only [sCn]; first | rw [if_pos (show (d i).toInt = (nI s).toInt by omega)] | rw [if_neg (show ¬ (d i).toInt = (nI s).toInt by omega), Int32.add_zero]), x_i (by first | exact nI_1 _ | decide), trivial⟩ (ihi (i + 1) (by omega) (by omega))
    refine E_iconst (v := 0) dL_game_248 (by decide) ?_
    refine E_istore dL_game_249 (Nat.le_of_ble_eq_true rfl) (by rfl) ?_
    exact E_loc [(0, .ref 0), (1, .ref 86), (2, .ref 87), (3, .ref 88), (4, .ref 89), (5, .int nc), (6, .int (nI s)), (7, .int (sPl (fun i => (c (6 * i)).toInt = (nI s).toInt) n)), (8, .int (sCn (fun k => (d k).toInt = (nI s).toInt) 0)), (9, .int (nI 0))] ⟨rfl, rfl, rfl, rfl, rfl, rfl, rfl, rfl, rfl, rfl, trivial⟩ (loop (61 + 1) 0 (by omega) (by omega))
  have loop : ∀ di i : Nat, n < i + di → i ≤ n → E G kL_game R ce sl (mem) 208 (x_L [(0, .ref 0), (1, .ref 86), (2, .ref 87), (3, .ref 88), (4, .ref 89), (5, .int nc), (6, .int (nI s)), (7, .int (sPl (fun i => (c (6 * i)).toInt = (nI s).toInt) i)), (8, .int 0), (9, .int (nI i))]) [] := by
    intro di
    induction di with
    | zero => intro i hi1 hi2; exact absurd hi1 (by omega)
    | succ di ihi =>
      intro i hi1 hi2
      have ei : (nI i).toInt = (i : Int) := nI_toInt (by omega)
      have eci : (nI i).toNatClampNeg = i := nI_clamp (by omega)
      refine E_iload dL_game_208 (by rfl) ?_
      refine E_aload dL_game_210 (by rfl) ?_
      refine E_iconst (v := 1) dL_game_212 (by decide) ?_
      refine E_rd dL_game_213 (by assumption) (show (1 : Int32) = nI 1 from rfl) (by omega) (by first | decide | omega) ht1 ?_
      refine E_icmp_ge (n := _) rfl (tgt := 248) dL_game_214 (by decide) (fun q214 => ?_) (fun q214 => ?_)
      · obtain rfl : i = n := by omega
        exact E_loc (gL8z nc s (sPl (fun j => (c (6 * j)).toInt = (nI s).toInt) i)) ⟨rfl, rfl, rfl, rfl, rfl, rfl, rfl, rfl, rfl, trivial⟩ ends
      · refine E_iload dL_game_217 (by rfl) ?_
        refine E_aload_n dL_game_219 (by rfl) ?_
        refine E_bipush (v := 6) dL_game_220 (by decide) ?_
        refine E_iload dL_game_222 (by rfl) ?_
        refine E_imul dL_game_224 ?_
        refine E_rd dL_game_225 (by assumption) (ix0 i) (by omega) (by first | decide | omega) rfl ?_
        refine E_iload dL_game_226 (by rfl) ?_
        refine E_icmp_ne (n := _) rfl (tgt := 238) dL_game_228 (by decide) (fun q228 => ?_) (fun q228 => ?_)
        · refine E_iconst (v := 0) dL_game_238 (by decide) ?_
          refine E_iadd dL_game_239 ?_
          refine E_istore dL_game_240 (Nat.le_of_ble_eq_true rfl) (by rfl) ?_
          refine E_iinc (d := 1) dL_game_242 (by rfl) (by decide) (Nat.le_of_ble_eq_true rfl) (by rfl) ?_
          refine E_goto (tgt := 208) dL_game_245 (by decide) ?_
          exact E_loc [(0, .ref 0), (1, .ref 86), (2, .ref 87), (3, .ref 88), (4, .ref 89), (5, .int nc), (6, .int (nI s)), (7, .int (sPl (fun i => (c (6 * i)).toInt = (nI s).toInt) (i + 1))), (8, .int 0), (9, .int (nI (i + 1)))] ⟨rfl, rfl, rfl, rfl, rfl, rfl, rfl, x_i (by simp only [sPl]; first | rw [if_pos (show (c (6 * i)).toInt = (nI s).toInt by omega)] | rw [if_neg (show ¬ (c (6 * i)).toInt = (nI s).toInt by omega)]), rfl, x_i (by first | exact nI_1 _ | decide), trivial⟩ (ihi (i + 1) (by omega) (by omega))
        · refine E_iconst (v := 1) dL_game_231 (by decide) ?_
          refine E_iload dL_game_232 (by rfl) ?_
          refine E_ishl dL_game_234 ?_
          refine E_goto (tgt := 239) dL_game_235 (by decide) ?_
          refine E_iadd dL_game_239 ?_
          refine E_istore dL_game_240 (Nat.le_of_ble_eq_true rfl) (by rfl) ?_
          refine E_iinc (d := 1) dL_game_242 (by rfl) (by decide) (Nat.le_of_ble_eq_true rfl) (by rfl) ?_
          refine E_goto (tgt := 208) dL_game_245 (by decide) ?_
          exact E_loc [(0, .ref 0), (1, .ref 86), (2, .ref 87), (3, .ref 88), (4, .ref 89), (5, .int nc), (6, .int (nI s)), (7, .int (sPl (fun i => (c (6 * i)).toInt = (nI s).toInt) (i + 1))), (8, .int 0), (9, .int (nI (i + 1)))] ⟨rfl, rfl, rfl, rfl, rfl, rfl, rfl, x_i (by simp only [sPl]; first | rw [if_pos (show (c (6 * i)).toInt = (nI s).toInt by omega)] | rw [if_neg (show ¬ (c (6 * i)).toInt = (nI s).toInt by omega)]), rfl, x_i (by first | exact nI_1 _ | decide), trivial⟩ (ihi (i + 1) (by omega) (by omega))
  refine E_iconst (v := 0) dL_game_199 (by decide) ?_
  refine E_istore dL_game_200 (Nat.le_of_ble_eq_true rfl) (by rfl) ?_
  refine E_iconst (v := 0) dL_game_202 (by decide) ?_
  refine E_istore dL_game_203 (Nat.le_of_ble_eq_true rfl) (by rfl) ?_
  refine E_iconst (v := 0) dL_game_205 (by decide) ?_
  refine E_istore dL_game_206 (Nat.le_of_ble_eq_true rfl) (by rfl) ?_
  exact E_loc [(0, .ref 0), (1, .ref 86), (2, .ref 87), (3, .ref 88), (4, .ref 89), (5, .int nc), (6, .int (nI s)), (7, .int (sPl (fun i => (c (6 * i)).toInt = (nI s).toInt) 0)), (8, .int 0), (9, .int (nI 0))] ⟨rfl, rfl, rfl, rfl, rfl, rfl, rfl, rfl, rfl, rfl, trivial⟩ (loop (n + 1) 0 (by omega) (by omega))
theorem y_step2 (hC : cAt mem C) (hS : k_gm C = S) (hI : Iv S T n m) (hL : Lw mem S d l c t) (hs : s < T) (hcs : ce ≤ 6 ∧ sl ≤ 366) (kk : E G kL_game R ce sl mem 190 (x_L (gL6 nc (s + 1))) []) : E G kL_game R ce sl mem 283 (x_L [(0, .ref 0), (1, .ref 86), (2, .ref 87), (3, .ref 88), (4, .ref 89), (5, .int nc), (6, .int (nI s)), (7, .int (sPl (fun i => (c (6 * i)).toInt = (nI s).toInt) n)), (8, .int (sCn (fun k => (d k).toInt = (nI s).toInt) 61))]) [] := by
  have n6 := hI.n6
  have t60 := hI.t60
  have es : (nI s).toInt = (s : Int) := nI_toInt (by omega)
  obtain ⟨b1, b2, ⟨b3, b4⟩, hd, hl, hR⟩ := id hL
  have a0 := hC.1
  have z1 := k_on (G := G) hC (by rw [hS]; exact hI.gc) n6 (nI s)
  rw [hS, if_pos ⟨by omega, by rw [hI.gtI]; omega⟩, on_eq hI hR (nI s)] at z1
  have z2 := k_step (G := G) hC (by rw [hS]; exact hI.gt) t60 (nI s) 0
  rw [hS, st0 hI hl hs] at z2
  have z3 := k_step (G := G) hC (by rw [hS]; exact hI.gt) t60 (nI s) 1
  rw [hS, st1 hI hd hs] at z3
  have z4 := k_step (G := G) hC (by rw [hS]; exact hI.gt) t60 (nI s) 2
  rw [hS, st2 hI hd hs] at z4
  refine E_aload_n dL_game_283 (by rfl) ?_
  refine E_iload dL_game_284 (by rfl) ?_
  refine cs_L_game_286 (by assumption) (Nat.le_of_ble_eq_true rfl) hcs z1 ?_
  refine E_iload dL_game_289 (by rfl) ?_
  refine E_icmp_ne (n := _) rfl (tgt := 346) dL_game_291 (by decide) (fun q291 => ?_) (fun q291 => ?_)
  · exact absurd rfl q291
  · refine E_aload_n dL_game_294 (by rfl) ?_
    refine E_iload dL_game_295 (by rfl) ?_
    refine E_iconst (v := 0) dL_game_297 (by decide) ?_
    refine cs_L_game_298 (by assumption) (Nat.le_of_ble_eq_true rfl) hcs z2 ?_
    refine E_aload_n dL_game_301 (by rfl) ?_
    refine E_iload dL_game_302 (by rfl) ?_
    refine E_rd dL_game_304 (by assumption) rfl (by omega) (by first | decide | omega) rfl ?_
    refine E_icmp_ne (n := _) rfl (tgt := 346) dL_game_305 (by decide) (fun q305 => ?_) (fun q305 => ?_)
    · exact absurd rfl q305
    · refine E_aload_n dL_game_308 (by rfl) ?_
      refine E_iload dL_game_309 (by rfl) ?_
      refine E_iconst (v := 1) dL_game_311 (by decide) ?_
      refine cs_L_game_312 (by assumption) (Nat.le_of_ble_eq_true rfl) hcs z3 ?_
      refine E_aload_n dL_game_315 (by rfl) ?_
      refine E_iload dL_game_316 (by rfl) ?_
      refine E_rd dL_game_318 (by assumption) rfl (by omega) (by first | decide | omega) rfl ?_
      refine E_if_ge (tgt := 327) dL_game_319 (by decide) (fun q319 => ?_) (fun q319 => ?_)
      · refine E_aload_n dL_game_327 (by rfl) ?_
        refine E_iload dL_game_328 (by rfl) ?_
        refine E_rd dL_game_330 (by assumption) rfl (by omega) (by first | decide | omega) rfl ?_
        refine E_icmp_ne (n := _) rfl (tgt := 346) dL_game_331 (by decide) (fun q331 => ?_) (fun q331 => ?_)
        · exact absurd (by first | rw [if_pos (by omega)]; rfl | rw [if_neg (by omega)]) q331
        · refine E_aload_n dL_game_334 (by rfl) ?_
          refine E_iload dL_game_335 (by rfl) ?_
          refine E_iconst (v := 2) dL_game_337 (by decide) ?_
          refine cs_L_game_338 (by assumption) (Nat.le_of_ble_eq_true rfl) hcs z4 ?_
          refine E_iload dL_game_341 (by rfl) ?_
          refine E_icmp_eq (n := _) rfl (tgt := 348) dL_game_343 (by decide) (fun q343 => ?_) (fun q343 => ?_)
          · refine E_iinc (d := 1) dL_game_348 (by rfl) (by decide) (Nat.le_of_ble_eq_true rfl) (by rfl) ?_
            refine E_goto (tgt := 190) dL_game_351 (by decide) ?_
            exact E_loc (gL6 nc (s + 1)) ⟨rfl, rfl, rfl, rfl, rfl, rfl, x_i (nI_1 s), trivial⟩ kk
          · exact absurd rfl q343
      · refine E_bipush (v := (-6)) dL_game_322 (by decide) ?_
        refine E_goto (tgt := 331) dL_game_324 (by decide) ?_
        refine E_icmp_ne (n := (-6)) (by decide) (tgt := 346) dL_game_331 (by decide) (fun q331 => ?_) (fun q331 => ?_)
        · exact absurd (by first | rw [if_pos (by omega)]; rfl | rw [if_neg (by omega)]) q331
        · refine E_aload_n dL_game_334 (by rfl) ?_
          refine E_iload dL_game_335 (by rfl) ?_
          refine E_iconst (v := 2) dL_game_337 (by decide) ?_
          refine cs_L_game_338 (by assumption) (Nat.le_of_ble_eq_true rfl) hcs z4 ?_
          refine E_iload dL_game_341 (by rfl) ?_
          refine E_icmp_eq (n := _) rfl (tgt := 348) dL_game_343 (by decide) (fun q343 => ?_) (fun q343 => ?_)
          · refine E_iinc (d := 1) dL_game_348 (by rfl) (by decide) (Nat.le_of_ble_eq_true rfl) (by rfl) ?_
            refine E_goto (tgt := 190) dL_game_351 (by decide) ?_
            exact E_loc (gL6 nc (s + 1)) ⟨rfl, rfl, rfl, rfl, rfl, rfl, x_i (nI_1 s), trivial⟩ kk
          · exact absurd rfl q343
theorem y_stepS (hC : cAt mem C) (hS : k_gm C = S) (hI : Iv S T n m) (hL : Lw mem S d l c t) (hcs : ce ≤ 6 ∧ sl ≤ 366) (kk : E G kL_game R ce sl mem 354 (x_L (gL5 nc)) []) : ∀ (u s : Nat), T = s + u → E G kL_game R ce sl mem 190 (x_L (gL6 nc s)) [] := by
  have t60 := hI.t60
  have eT : (nI T).toInt = (T : Int) := nI_toInt (by omega)
  obtain ⟨b1, b2, ⟨b3, b4⟩, hd, hl, hR⟩ := id hL
  have ht0 := hR.t0.trans hI.gt
  intro u
  induction u with
  | zero =>
    intro s hs
    obtain rfl : T = s := by omega
    refine E_iload dL_game_190 (by rfl) ?_
    refine E_aload dL_game_192 (by rfl) ?_
    refine E_iconst (v := 0) dL_game_194 (by decide) ?_
    refine E_rd dL_game_195 (by assumption) (show (0 : Int32) = nI 0 from rfl) (by omega) (by first | decide | omega) ht0 ?_
    refine E_icmp_ge (n := _) rfl (tgt := 354) dL_game_196 (by decide) (fun q196 => ?_) (fun q196 => ?_)
    · exact E_loc (gL5 nc) ⟨rfl, rfl, rfl, rfl, rfl, rfl, trivial⟩ kk
    · exact absurd (Int.le_refl _) q196
  | succ u ih =>
    intro s hs
    have es : (nI s).toInt = (s : Int) := nI_toInt (by omega)
    refine E_iload dL_game_190 (by rfl) ?_
    refine E_aload dL_game_192 (by rfl) ?_
    refine E_iconst (v := 0) dL_game_194 (by decide) ?_
    refine E_rd dL_game_195 (by assumption) (show (0 : Int32) = nI 0 from rfl) (by omega) (by first | decide | omega) ht0 ?_
    refine E_icmp_ge (n := _) rfl (tgt := 354) dL_game_196 (by decide) (fun q196 => ?_) (fun q196 => ?_)
    · exact absurd q196 (by omega)
    · exact y_step1 hI hL (y_step2 hC hS hI hL (by omega) hcs (ih (s + 1) (by omega)))
theorem y_gameE (hC : cAt mem C) (hS : k_gm C = S) (hI : Iv S T n m) (hL : Lw mem S d l c t) (hnc : nc = sCn (g_up (g_le S)) T) (hcs : ce ≤ 6 ∧ sl ≤ 366) (hRR : R (some (.int 1)) mem) : E G kL_game R ce sl mem 354 (x_L (gL5 nc)) [] := by
  have n6 := hI.n6
  have t60 := hI.t60
  have en : (nI n).toInt = (n : Int) := nI_toInt (by omega)
  have eT : (nI T).toInt = (T : Int) := nI_toInt (by omega)
  obtain ⟨b1, b2, ⟨b3, b4⟩, hd, hl, hR⟩ := id hL
  have hLa := hL.2.2.1
  have a0 := hC.1
  have ht0 : t 0 = nI T := hR.t0.trans hI.gt
  have ht1 : t 1 = nI n := hR.t1.trans hI.gc
  have z0 := k_turn (G := G) hC
  rw [hS, mv_eq hI] at z0
  have z1 := k_rank (G := G) hC (by rw [hS]; exact hI.gc) n6 (nI n)
  rw [hS, rank_n n6] at z1
  have zt : ∀ p, Dt G kX3_total [.ref 0, .int p] mem (some (.int (gTo S T p))) mem := fun p => by
    have z := k_total (G := G) hC (by rw [hS]; exact hI.gt) t60 p
    rw [hS] at z
    exact z
  have y0 := zt 0
  have y1 := zt 1
  have y2 := zt 2
  have y3 := zt 3
  have y4 := zt 4
  have y5 := zt 5
  have y6 := zt 6
  have y7 := zt 7
  have y8 := zt 8
  unfold gTo at y0 y1 y2 y3 y4 y5 y6 y7 y8
  rw [if_pos rfl, hI.gt] at y0
  rw [if_neg (by decide), if_pos rfl, hI.gc] at y1
  rw [if_neg (by decide), if_neg (by decide), if_pos rfl, ← hnc] at y2
  rw [if_neg (by decide), if_neg (by decide), if_neg (by decide), if_pos rfl, ← land_eq hI hl] at y3
  rw [if_neg (by decide), if_neg (by decide), if_neg (by decide), if_neg (by decide), if_pos rfl, ← hR.t3, Int32.add_zero] at y4
  rw [if_neg (by decide), if_neg (by decide), if_neg (by decide), if_neg (by decide), if_neg (by decide), if_pos rfl, ← hR.t4, Int32.add_zero] at y5
  rw [if_neg (by decide), if_neg (by decide), if_neg (by decide), if_neg (by decide), if_neg (by decide), if_neg (by decide), if_pos rfl, ← hR.t5] at y6
  rw [if_neg (by decide), if_neg (by decide), if_neg (by decide), if_neg (by decide), if_neg (by decide), if_neg (by decide), if_neg (by decide), if_pos rfl, ← tops_eq hI hR] at y7
  rw [if_neg (by decide), if_neg (by decide), if_neg (by decide), if_neg (by decide), if_neg (by decide), if_neg (by decide), if_neg (by decide), if_neg (by decide), if_pos rfl, ← hR.t6] at y8
  have z2 := k_step (G := G) hC (by rw [hS]; exact hI.gt) t60 (nI T) 0
  rw [hS, stT hI] at z2
  have z3 := k_on (G := G) hC (by rw [hS]; exact hI.gc) n6 (nI T)
  rw [hS, if_neg (fun z => by have := z.2; rw [hI.gtI] at this; omega)] at z3
  refine E_aload_n dL_game_354 (by rfl) ?_
  refine cs_L_game_355 (by assumption) (Nat.le_of_ble_eq_true rfl) hcs z0 ?_
  refine E_aload dL_game_358 (by rfl) ?_
  refine E_iconst (v := 1) dL_game_360 (by decide) ?_
  refine E_rd dL_game_361 (by assumption) (show (1 : Int32) = nI 1 from rfl) (by omega) (by first | decide | omega) ht1 ?_
  refine E_if_ne (tgt := 370) dL_game_362 (by decide) (fun q362 => ?_) (fun q362 => ?_)
  · refine E_aload dL_game_370 (by rfl) ?_
    refine E_iconst (v := 2) dL_game_372 (by decide) ?_
    refine E_rd dL_game_373 (by assumption) (show (2 : Int32) = nI 2 from rfl) (by omega) (by first | decide | omega) (hR.t2.trans hI.gm) ?_
    refine E_icmp_ne (n := _) rfl (tgt := 530) dL_game_374 (by decide) (fun q374 => ?_) (fun q374 => ?_)
    · exact absurd (by first | rw [if_pos (by omega)]; rfl | rw [if_neg (by omega)]) q374
    · refine E_aload_n dL_game_377 (by rfl) ?_
      refine E_aload dL_game_378 (by rfl) ?_
      refine E_iconst (v := 1) dL_game_380 (by decide) ?_
      refine E_rd dL_game_381 (by assumption) (show (1 : Int32) = nI 1 from rfl) (by omega) (by first | decide | omega) ht1 ?_
      refine cs_L_game_382 (by assumption) (Nat.le_of_ble_eq_true rfl) hcs z1 ?_
      refine E_bipush (v := (-6)) dL_game_385 (by decide) ?_
      refine E_icmp_ne (n := (-6)) (by decide) (tgt := 530) dL_game_387 (by decide) (fun q387 => ?_) (fun q387 => ?_)
      · exact absurd rfl q387
      · refine E_aload_n dL_game_390 (by rfl) ?_
        refine E_iconst (v := 0) dL_game_391 (by decide) ?_
        refine cs_L_game_392 (by assumption) (Nat.le_of_ble_eq_true rfl) hcs y0 ?_
        refine E_aload dL_game_395 (by rfl) ?_
        refine E_iconst (v := 0) dL_game_397 (by decide) ?_
        refine E_rd dL_game_398 (by assumption) (show (0 : Int32) = nI 0 from rfl) (by omega) (by first | decide | omega) ht0 ?_
        refine E_icmp_ne (n := _) rfl (tgt := 530) dL_game_399 (by decide) (fun q399 => ?_) (fun q399 => ?_)
        · exact absurd rfl q399
        · refine E_aload_n dL_game_402 (by rfl) ?_
          refine E_iconst (v := 1) dL_game_403 (by decide) ?_
          refine cs_L_game_404 (by assumption) (Nat.le_of_ble_eq_true rfl) hcs y1 ?_
          refine E_aload dL_game_407 (by rfl) ?_
          refine E_iconst (v := 1) dL_game_409 (by decide) ?_
          refine E_rd dL_game_410 (by assumption) (show (1 : Int32) = nI 1 from rfl) (by omega) (by first | decide | omega) ht1 ?_
          refine E_icmp_ne (n := _) rfl (tgt := 530) dL_game_411 (by decide) (fun q411 => ?_) (fun q411 => ?_)
          · exact absurd rfl q411
          · refine E_aload_n dL_game_414 (by rfl) ?_
            refine E_iconst (v := 2) dL_game_415 (by decide) ?_
            refine cs_L_game_416 (by assumption) (Nat.le_of_ble_eq_true rfl) hcs y2 ?_
            refine E_iload dL_game_419 (by rfl) ?_
            refine E_icmp_ne (n := _) rfl (tgt := 530) dL_game_421 (by decide) (fun q421 => ?_) (fun q421 => ?_)
            · exact absurd rfl q421
            · refine E_aload_n dL_game_424 (by rfl) ?_
              refine E_iconst (v := 3) dL_game_425 (by decide) ?_
              refine cs_L_game_426 (by assumption) (Nat.le_of_ble_eq_true rfl) hcs y3 ?_
              refine E_aload_n dL_game_429 (by rfl) ?_
              refine cs_L_game_430 (Nat.le_of_ble_eq_true rfl) hcs (y_sum b2) ?_
              refine E_icmp_ne (n := _) rfl (tgt := 530) dL_game_433 (by decide) (fun q433 => ?_) (fun q433 => ?_)
              · exact absurd rfl q433
              · refine E_aload_n dL_game_436 (by rfl) ?_
                refine E_iconst (v := 4) dL_game_437 (by decide) ?_
                refine cs_L_game_438 (by assumption) (Nat.le_of_ble_eq_true rfl) hcs y4 ?_
                refine E_aload dL_game_441 (by rfl) ?_
                refine E_iconst (v := 3) dL_game_443 (by decide) ?_
                refine E_rd dL_game_444 (by assumption) (show (3 : Int32) = nI 3 from rfl) (by omega) (by first | decide | omega) rfl ?_
                refine E_icmp_ne (n := _) rfl (tgt := 530) dL_game_445 (by decide) (fun q445 => ?_) (fun q445 => ?_)
                · exact absurd rfl q445
                · refine E_aload_n dL_game_448 (by rfl) ?_
                  refine E_iconst (v := 5) dL_game_449 (by decide) ?_
                  refine cs_L_game_450 (by assumption) (Nat.le_of_ble_eq_true rfl) hcs y5 ?_
                  refine E_aload dL_game_453 (by rfl) ?_
                  refine E_iconst (v := 4) dL_game_455 (by decide) ?_
                  refine E_rd dL_game_456 (by assumption) (show (4 : Int32) = nI 4 from rfl) (by omega) (by first | decide | omega) rfl ?_
                  refine E_icmp_ne (n := _) rfl (tgt := 530) dL_game_457 (by decide) (fun q457 => ?_) (fun q457 => ?_)
                  · exact absurd rfl q457
                  · refine E_aload_n dL_game_460 (by rfl) ?_
                    refine E_bipush (v := 6) dL_game_461 (by decide) ?_
                    refine cs_L_game_463 (by assumption) (Nat.le_of_ble_eq_true rfl) hcs y6 ?_
                    refine E_aload dL_game_466 (by rfl) ?_
                    refine E_iconst (v := 5) dL_game_468 (by decide) ?_
                    refine E_rd dL_game_469 (by assumption) (show (5 : Int32) = nI 5 from rfl) (by omega) (by first | decide | omega) rfl ?_
                    refine E_icmp_ne (n := _) rfl (tgt := 530) dL_game_470 (by decide) (fun q470 => ?_) (fun q470 => ?_)
                    · exact absurd rfl q470
                    · refine E_aload_n dL_game_473 (by rfl) ?_
                      refine E_bipush (v := 7) dL_game_474 (by decide) ?_
                      refine cs_L_game_476 (by assumption) (Nat.le_of_ble_eq_true rfl) hcs y7 ?_
                      refine E_aload_n dL_game_479 (by rfl) ?_
                      refine E_aload dL_game_480 (by rfl) ?_
                      refine cs_L_game_482 (Nat.le_of_ble_eq_true rfl) hcs (y_tops hLa n6 ht1) ?_
                      refine E_icmp_ne (n := _) rfl (tgt := 530) dL_game_485 (by decide) (fun q485 => ?_) (fun q485 => ?_)
                      · exact absurd rfl q485
                      · refine E_aload_n dL_game_488 (by rfl) ?_
                        refine E_bipush (v := 8) dL_game_489 (by decide) ?_
                        refine cs_L_game_491 (by assumption) (Nat.le_of_ble_eq_true rfl) hcs y8 ?_
                        refine E_aload dL_game_494 (by rfl) ?_
                        refine E_bipush (v := 6) dL_game_496 (by decide) ?_
                        refine E_rd dL_game_498 (by assumption) (show (6 : Int32) = nI 6 from rfl) (by omega) (by first | decide | omega) rfl ?_
                        refine E_icmp_ne (n := _) rfl (tgt := 530) dL_game_499 (by decide) (fun q499 => ?_) (fun q499 => ?_)
                        · exact absurd rfl q499
                        · refine E_aload_n dL_game_502 (by rfl) ?_
                          refine E_aload dL_game_503 (by rfl) ?_
                          refine E_iconst (v := 0) dL_game_505 (by decide) ?_
                          refine E_rd dL_game_506 (by assumption) (show (0 : Int32) = nI 0 from rfl) (by omega) (by first | decide | omega) ht0 ?_
                          refine E_iconst (v := 0) dL_game_507 (by decide) ?_
                          refine cs_L_game_508 (by assumption) (Nat.le_of_ble_eq_true rfl) hcs z2 ?_
                          refine E_if_ne (tgt := 530) dL_game_511 (by decide) (fun q511 => ?_) (fun q511 => ?_)
                          · exact absurd rfl q511
                          · refine E_aload_n dL_game_514 (by rfl) ?_
                            refine E_aload dL_game_515 (by rfl) ?_
                            refine E_iconst (v := 0) dL_game_517 (by decide) ?_
                            refine E_rd dL_game_518 (by assumption) (show (0 : Int32) = nI 0 from rfl) (by omega) (by first | decide | omega) ht0 ?_
                            refine cs_L_game_519 (by assumption) (Nat.le_of_ble_eq_true rfl) hcs z3 ?_
                            refine E_iconst (v := (-1)) dL_game_522 (by decide) ?_
                            refine E_icmp_ne (n := (-1)) (by decide) (tgt := 530) dL_game_523 (by decide) (fun q523 => ?_) (fun q523 => ?_)
                            · exact absurd rfl q523
                            · refine E_iconst (v := 1) dL_game_526 (by decide) ?_
                              refine E_goto (tgt := 531) dL_game_527 (by decide) ?_
                              refine E_iret dL_game_531 rfl (by decide) hcs.1 hcs.2 ?_
                              exact hRR
  · refine E_bipush (v := (-6)) dL_game_365 (by decide) ?_
    refine E_goto (tgt := 374) dL_game_367 (by decide) ?_
    refine E_icmp_ne (n := (-6)) (by decide) (tgt := 530) dL_game_374 (by decide) (fun q374 => ?_) (fun q374 => ?_)
    · exact absurd (by first | rw [if_pos (by omega)]; rfl | rw [if_neg (by omega)]) q374
    · refine E_aload_n dL_game_377 (by rfl) ?_
      refine E_aload dL_game_378 (by rfl) ?_
      refine E_iconst (v := 1) dL_game_380 (by decide) ?_
      refine E_rd dL_game_381 (by assumption) (show (1 : Int32) = nI 1 from rfl) (by omega) (by first | decide | omega) ht1 ?_
      refine cs_L_game_382 (by assumption) (Nat.le_of_ble_eq_true rfl) hcs z1 ?_
      refine E_bipush (v := (-6)) dL_game_385 (by decide) ?_
      refine E_icmp_ne (n := (-6)) (by decide) (tgt := 530) dL_game_387 (by decide) (fun q387 => ?_) (fun q387 => ?_)
      · exact absurd rfl q387
      · refine E_aload_n dL_game_390 (by rfl) ?_
        refine E_iconst (v := 0) dL_game_391 (by decide) ?_
        refine cs_L_game_392 (by assumption) (Nat.le_of_ble_eq_true rfl) hcs y0 ?_
        refine E_aload dL_game_395 (by rfl) ?_
        refine E_iconst (v := 0) dL_game_397 (by decide) ?_
        refine E_rd dL_game_398 (by assumption) (show (0 : Int32) = nI 0 from rfl) (by omega) (by first | decide | omega) ht0 ?_
        refine E_icmp_ne (n := _) rfl (tgt := 530) dL_game_399 (by decide) (fun q399 => ?_) (fun q399 => ?_)
        · exact absurd rfl q399
        · refine E_aload_n dL_game_402 (by rfl) ?_
          refine E_iconst (v := 1) dL_game_403 (by decide) ?_
          refine cs_L_game_404 (by assumption) (Nat.le_of_ble_eq_true rfl) hcs y1 ?_
          refine E_aload dL_game_407 (by rfl) ?_
          refine E_iconst (v := 1) dL_game_409 (by decide) ?_
          refine E_rd dL_game_410 (by assumption) (show (1 : Int32) = nI 1 from rfl) (by omega) (by first | decide | omega) ht1 ?_
          refine E_icmp_ne (n := _) rfl (tgt := 530) dL_game_411 (by decide) (fun q411 => ?_) (fun q411 => ?_)
          · exact absurd rfl q411
          · refine E_aload_n dL_game_414 (by rfl) ?_
            refine E_iconst (v := 2) dL_game_415 (by decide) ?_
            refine cs_L_game_416 (by assumption) (Nat.le_of_ble_eq_true rfl) hcs y2 ?_
            refine E_iload dL_game_419 (by rfl) ?_
            refine E_icmp_ne (n := _) rfl (tgt := 530) dL_game_421 (by decide) (fun q421 => ?_) (fun q421 => ?_)
            · exact absurd rfl q421
            · refine E_aload_n dL_game_424 (by rfl) ?_
              refine E_iconst (v := 3) dL_game_425 (by decide) ?_
              refine cs_L_game_426 (by assumption) (Nat.le_of_ble_eq_true rfl) hcs y3 ?_
              refine E_aload_n dL_game_429 (by rfl) ?_
              refine cs_L_game_430 (Nat.le_of_ble_eq_true rfl) hcs (y_sum b2) ?_
              refine E_icmp_ne (n := _) rfl (tgt := 530) dL_game_433 (by decide) (fun q433 => ?_) (fun q433 => ?_)
              · exact absurd rfl q433
              · refine E_aload_n dL_game_436 (by rfl) ?_
                refine E_iconst (v := 4) dL_game_437 (by decide) ?_
                refine cs_L_game_438 (by assumption) (Nat.le_of_ble_eq_true rfl) hcs y4 ?_
                refine E_aload dL_game_441 (by rfl) ?_
                refine E_iconst (v := 3) dL_game_443 (by decide) ?_
                refine E_rd dL_game_444 (by assumption) (show (3 : Int32) = nI 3 from rfl) (by omega) (by first | decide | omega) rfl ?_
                refine E_icmp_ne (n := _) rfl (tgt := 530) dL_game_445 (by decide) (fun q445 => ?_) (fun q445 => ?_)
                · exact absurd rfl q445
                · refine E_aload_n dL_game_448 (by rfl) ?_
                  refine E_iconst (v := 5) dL_game_449 (by decide) ?_
                  refine cs_L_game_450 (by assumption) (Nat.le_of_ble_eq_true rfl) hcs y5 ?_
                  refine E_aload dL_game_453 (by rfl) ?_
                  refine E_iconst (v := 4) dL_game_455 (by decide) ?_
                  refine E_rd dL_game_456 (by assumption) (show (4 : Int32) = nI 4 from rfl) (by omega) (by first | decide | omega) rfl ?_
                  refine E_icmp_ne (n := _) rfl (tgt := 530) dL_game_457 (by decide) (fun q457 => ?_) (fun q457 => ?_)
                  · exact absurd rfl q457
                  · refine E_aload_n dL_game_460 (by rfl) ?_
                    refine E_bipush (v := 6) dL_game_461 (by decide) ?_
                    refine cs_L_game_463 (by assumption) (Nat.le_of_ble_eq_true rfl) hcs y6 ?_
                    refine E_aload dL_game_466 (by rfl) ?_
                    refine E_iconst (v := 5) dL_game_468 (by decide) ?_
                    refine E_rd dL_game_469 (by assumption) (show (5 : Int32) = nI 5 from rfl) (by omega) (by first | decide | omega) rfl ?_
                    refine E_icmp_ne (n := _) rfl (tgt := 530) dL_game_470 (by decide) (fun q470 => ?_) (fun q470 => ?_)
                    · exact absurd rfl q470
                    · refine E_aload_n dL_game_473 (by rfl) ?_
                      refine E_bipush (v := 7) dL_game_474 (by decide) ?_
                      refine cs_L_game_476 (by assumption) (Nat.le_of_ble_eq_true rfl) hcs y7 ?_
                      refine E_aload_n dL_game_479 (by rfl) ?_
                      refine E_aload dL_game_480 (by rfl) ?_
                      refine cs_L_game_482 (Nat.le_of_ble_eq_true rfl) hcs (y_tops hLa n6 ht1) ?_
                      refine E_icmp_ne (n := _) rfl (tgt := 530) dL_game_485 (by decide) (fun q485 => ?_) (fun q485 => ?_)
                      · exact absurd rfl q485
                      · refine E_aload_n dL_game_488 (by rfl) ?_
                        refine E_bipush (v := 8) dL_game_489 (by decide) ?_
                        refine cs_L_game_491 (by assumption) (Nat.le_of_ble_eq_true rfl) hcs y8 ?_
                        refine E_aload dL_game_494 (by rfl) ?_
                        refine E_bipush (v := 6) dL_game_496 (by decide) ?_
                        refine E_rd dL_game_498 (by assumption) (show (6 : Int32) = nI 6 from rfl) (by omega) (by first | decide | omega) rfl ?_
                        refine E_icmp_ne (n := _) rfl (tgt := 530) dL_game_499 (by decide) (fun q499 => ?_) (fun q499 => ?_)
                        · exact absurd rfl q499
                        · refine E_aload_n dL_game_502 (by rfl) ?_
                          refine E_aload dL_game_503 (by rfl) ?_
                          refine E_iconst (v := 0) dL_game_505 (by decide) ?_
                          refine E_rd dL_game_506 (by assumption) (show (0 : Int32) = nI 0 from rfl) (by omega) (by first | decide | omega) ht0 ?_
                          refine E_iconst (v := 0) dL_game_507 (by decide) ?_
                          refine cs_L_game_508 (by assumption) (Nat.le_of_ble_eq_true rfl) hcs z2 ?_
                          refine E_if_ne (tgt := 530) dL_game_511 (by decide) (fun q511 => ?_) (fun q511 => ?_)
                          · exact absurd rfl q511
                          · refine E_aload_n dL_game_514 (by rfl) ?_
                            refine E_aload dL_game_515 (by rfl) ?_
                            refine E_iconst (v := 0) dL_game_517 (by decide) ?_
                            refine E_rd dL_game_518 (by assumption) (show (0 : Int32) = nI 0 from rfl) (by omega) (by first | decide | omega) ht0 ?_
                            refine cs_L_game_519 (by assumption) (Nat.le_of_ble_eq_true rfl) hcs z3 ?_
                            refine E_iconst (v := (-1)) dL_game_522 (by decide) ?_
                            refine E_icmp_ne (n := (-1)) (by decide) (tgt := 530) dL_game_523 (by decide) (fun q523 => ?_) (fun q523 => ?_)
                            · exact absurd rfl q523
                            · refine E_iconst (v := 1) dL_game_526 (by decide) ?_
                              refine E_goto (tgt := 531) dL_game_527 (by decide) ?_
                              refine E_iret dL_game_531 rfl (by decide) hcs.1 hcs.2 ?_
                              exact hRR
/-- what the class tells is what the rows say -/
theorem y_game (hC : cAt mem C) (hS : k_gm C = S) (hI : Iv S T n m) (hL : Lw mem S d l c t) (hnc : nc = sCn (g_up (g_le S)) T) : Pt G kL_game [.ref 0, .ref 86, .ref 87, .ref 88, .ref 89, .int nc] mem (some (.int 1)) (fun mm => ∃ xs, mm = mem ++ xs) := by
  have n6 := hI.n6
  refine Ct_of (by decide) (Nat.le_of_ble_eq_true rfl) ?_
  have fin : ∀ m1, cAt m1 C → Lw m1 S d l c t → (∃ xs, m1 = mem ++ xs) → E G kL_game (fun v' mm => v' = some (.int 1) ∧ ∃ xs, mm = mem ++ xs) n (61 * n) m1 187 (x_L (gL5 nc)) [] := by
    intro m1 g1 g2 g3
    refine E_iconst (v := 0) dL_game_187 (by decide) ?_
    refine E_istore dL_game_188 (Nat.le_of_ble_eq_true rfl) (by rfl) ?_
    exact E_loc (gL6 nc 0) ⟨rfl, rfl, rfl, rfl, rfl, rfl, rfl, trivial⟩ (y_stepS g1 hS hI g2 (by omega) (y_gameE g1 hS hI g2 hnc (by omega) ⟨rfl, g3⟩) T 0 (by omega))
  refine E_iconst (v := 0) dL_game_0 (by decide) ?_
  refine E_istore dL_game_1 (Nat.le_of_ble_eq_true rfl) (by rfl) ?_
  exact E_loc (gL6 nc 0) ⟨rfl, rfl, rfl, rfl, rfl, rfl, rfl, trivial⟩ (y_gameK (C := C) (mm := mem) hI fin hS n 0 mem (by omega) hC hL ⟨[], (List.append_nil _).symm⟩)
end GB
