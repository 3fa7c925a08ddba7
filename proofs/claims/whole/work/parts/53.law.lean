/-! the law: its cases, its loop, its entry -/
section LW
variable {G : xG} {mem : xM} {b i L : Nat} {ce sl : Nat}
abbrev lR : Option Value → xM → Prop := fun v _ => v = some (.int 1)
abbrev lL (i : Nat) : Nat → Option Value := x_L [(0, .float 0), (1, .ref 0), (2, .ref 86), (3, .int (nI i))]
theorem l_vp {j : Nat} (h : j < L) (hL : L ≤ 1536) : vp_in (nI j) L := i_in (by rw [nI_toInt (by omega)]; omega) (by rw [nI_toInt (by omega)]; omega)
theorem la_setTop (hL : G.2.2.2.2.2.1 = L) (hL2 : L ≤ 1536) (hcs : ce ≤ 600000 ∧ sl ≤ 7302250) (hi : i + 3 ≤ L) (h : StE b mem) (kk : ∀ m2 : xM, StE (b + 31) m2 → E G kL_law lR ce sl m2 653 (lL i) []) : E G kL_law lR ce sl mem 148 (lL i) [] := by
  have v1 : vp_in (nI i + 1) G.2.2.2.2.2.1 := by rw [hL, nI_1]; exact l_vp (by omega) hL2
  have v2 : vp_in (nI i + 2) G.2.2.2.2.2.1 := by rw [hL, show nI i + 2 = nI (i + 2) from nI_add i 2]; exact l_vp (by omega) hL2
  have h0 := h
  obtain ⟨C, M, hC, hM, hI⟩ := h0
  obtain ⟨r, hr⟩ := two_setTop (G := G) h (G.2.2.2.2.2.2 (nI i + 1).toNatClampNeg)
  refine E_aload_n dL_law_148 (by rfl) ?_
  refine E_sload_n dL_law_149 (by rfl) ?_
  refine E_iload_n dL_law_150 (by rfl) ?_
  refine E_iconst (v := 1) dL_law_151 (by decide) ?_
  refine E_iadd dL_law_152 ?_
  refine E_sld dL_law_153 v1 ?_
  refine cp_L_law_154 hC.1 (Nat.le_of_ble_eq_true rfl) hcs hr (fun m1 h1 => ?_)
  obtain ⟨⟨M1, hM1⟩, h2⟩ := h1
  refine E_aload_n dL_law_157 (by rfl) ?_
  refine E_sload_n dL_law_158 (by rfl) ?_
  refine E_iload_n dL_law_159 (by rfl) ?_
  refine E_iconst (v := 1) dL_law_160 (by decide) ?_
  refine E_iadd dL_law_161 ?_
  refine E_sld dL_law_162 v1 ?_
  refine cp_L_law_163 hM1.1 (Nat.le_of_ble_eq_true rfl) hcs h2 (fun m2 h3 => ?_)
  refine E_icmp_eq (tgt := 653) r.toInt rfl dL_law_166 (by decide) (fun _ => kk m2 h3) (fun q => absurd rfl q)
theorem la_lay (hL : G.2.2.2.2.2.1 = L) (hL2 : L ≤ 1536) (hcs : ce ≤ 600000 ∧ sl ≤ 7302250) (hi : i + 3 ≤ L) (h : StE b mem) (kk : ∀ m2 : xM, StE (b + 31) m2 → E G kL_law lR ce sl m2 653 (lL i) []) : E G kL_law lR ce sl mem 171 (lL i) [] := by
  have v1 : vp_in (nI i + 1) G.2.2.2.2.2.1 := by rw [hL, nI_1]; exact l_vp (by omega) hL2
  have v2 : vp_in (nI i + 2) G.2.2.2.2.2.1 := by rw [hL, show nI i + 2 = nI (i + 2) from nI_add i 2]; exact l_vp (by omega) hL2
  have h0 := h
  obtain ⟨C, M, hC, hM, hI⟩ := h0
  obtain ⟨r, hr⟩ := two_lay (G := G) h (G.2.2.2.2.2.2 (nI i + 1).toNatClampNeg) (G.2.2.2.2.2.2 (nI i + 2).toNatClampNeg)
  refine E_aload_n dL_law_171 (by rfl) ?_
  refine E_sload_n dL_law_172 (by rfl) ?_
  refine E_iload_n dL_law_173 (by rfl) ?_
  refine E_iconst (v := 1) dL_law_174 (by decide) ?_
  refine E_iadd dL_law_175 ?_
  refine E_sld dL_law_176 v1 ?_
  refine E_sload_n dL_law_177 (by rfl) ?_
  refine E_iload_n dL_law_178 (by rfl) ?_
  refine E_iconst (v := 2) dL_law_179 (by decide) ?_
  refine E_iadd dL_law_180 ?_
  refine E_sld dL_law_181 v2 ?_
  refine cp_L_law_182 hC.1 (Nat.le_of_ble_eq_true rfl) hcs hr (fun m1 h1 => ?_)
  obtain ⟨⟨M1, hM1⟩, h2⟩ := h1
  refine E_aload_n dL_law_185 (by rfl) ?_
  refine E_sload_n dL_law_186 (by rfl) ?_
  refine E_iload_n dL_law_187 (by rfl) ?_
  refine E_iconst (v := 1) dL_law_188 (by decide) ?_
  refine E_iadd dL_law_189 ?_
  refine E_sld dL_law_190 v1 ?_
  refine E_sload_n dL_law_191 (by rfl) ?_
  refine E_iload_n dL_law_192 (by rfl) ?_
  refine E_iconst (v := 2) dL_law_193 (by decide) ?_
  refine E_iadd dL_law_194 ?_
  refine E_sld dL_law_195 v2 ?_
  refine cp_L_law_196 hM1.1 (Nat.le_of_ble_eq_true rfl) hcs h2 (fun m2 h3 => ?_)
  refine E_icmp_eq (tgt := 653) r.toInt rfl dL_law_199 (by decide) (fun _ => kk m2 h3) (fun q => absurd rfl q)
theorem la_take (hL : G.2.2.2.2.2.1 = L) (hL2 : L ≤ 1536) (hcs : ce ≤ 600000 ∧ sl ≤ 7302250) (hi : i + 3 ≤ L) (h : StE b mem) (kk : ∀ m2 : xM, StE (b + 31) m2 → E G kL_law lR ce sl m2 653 (lL i) []) : E G kL_law lR ce sl mem 204 (lL i) [] := by
  have v1 : vp_in (nI i + 1) G.2.2.2.2.2.1 := by rw [hL, nI_1]; exact l_vp (by omega) hL2
  have v2 : vp_in (nI i + 2) G.2.2.2.2.2.1 := by rw [hL, show nI i + 2 = nI (i + 2) from nI_add i 2]; exact l_vp (by omega) hL2
  have h0 := h
  obtain ⟨C, M, hC, hM, hI⟩ := h0
  obtain ⟨r, hr⟩ := two_take (G := G) h (G.2.2.2.2.2.2 (nI i + 1).toNatClampNeg)
  refine E_aload_n dL_law_204 (by rfl) ?_
  refine E_sload_n dL_law_205 (by rfl) ?_
  refine E_iload_n dL_law_206 (by rfl) ?_
  refine E_iconst (v := 1) dL_law_207 (by decide) ?_
  refine E_iadd dL_law_208 ?_
  refine E_sld dL_law_209 v1 ?_
  refine cp_L_law_210 hC.1 (Nat.le_of_ble_eq_true rfl) hcs hr (fun m1 h1 => ?_)
  obtain ⟨⟨M1, hM1⟩, h2⟩ := h1
  refine E_aload_n dL_law_213 (by rfl) ?_
  refine E_sload_n dL_law_214 (by rfl) ?_
  refine E_iload_n dL_law_215 (by rfl) ?_
  refine E_iconst (v := 1) dL_law_216 (by decide) ?_
  refine E_iadd dL_law_217 ?_
  refine E_sld dL_law_218 v1 ?_
  refine cp_L_law_219 hM1.1 (Nat.le_of_ble_eq_true rfl) hcs h2 (fun m2 h3 => ?_)
  refine E_icmp_eq (tgt := 653) r.toInt rfl dL_law_222 (by decide) (fun _ => kk m2 h3) (fun q => absurd rfl q)
theorem la_put (hL : G.2.2.2.2.2.1 = L) (hL2 : L ≤ 1536) (hcs : ce ≤ 600000 ∧ sl ≤ 7302250) (hi : i + 3 ≤ L) (h : StE b mem) (kk : ∀ m2 : xM, StE (b + 31) m2 → E G kL_law lR ce sl m2 653 (lL i) []) : E G kL_law lR ce sl mem 227 (lL i) [] := by
  have v1 : vp_in (nI i + 1) G.2.2.2.2.2.1 := by rw [hL, nI_1]; exact l_vp (by omega) hL2
  have v2 : vp_in (nI i + 2) G.2.2.2.2.2.1 := by rw [hL, show nI i + 2 = nI (i + 2) from nI_add i 2]; exact l_vp (by omega) hL2
  have h0 := h
  obtain ⟨C, M, hC, hM, hI⟩ := h0
  obtain ⟨r, hr⟩ := two_put (G := G) h (G.2.2.2.2.2.2 (nI i + 1).toNatClampNeg)
  refine E_aload_n dL_law_227 (by rfl) ?_
  refine E_sload_n dL_law_228 (by rfl) ?_
  refine E_iload_n dL_law_229 (by rfl) ?_
  refine E_iconst (v := 1) dL_law_230 (by decide) ?_
  refine E_iadd dL_law_231 ?_
  refine E_sld dL_law_232 v1 ?_
  refine cp_L_law_233 hC.1 (Nat.le_of_ble_eq_true rfl) hcs hr (fun m1 h1 => ?_)
  obtain ⟨⟨M1, hM1⟩, h2⟩ := h1
  refine E_aload_n dL_law_236 (by rfl) ?_
  refine E_sload_n dL_law_237 (by rfl) ?_
  refine E_iload_n dL_law_238 (by rfl) ?_
  refine E_iconst (v := 1) dL_law_239 (by decide) ?_
  refine E_iadd dL_law_240 ?_
  refine E_sld dL_law_241 v1 ?_
  refine cp_L_law_242 hM1.1 (Nat.le_of_ble_eq_true rfl) hcs h2 (fun m2 h3 => ?_)
  refine E_icmp_eq (tgt := 653) r.toInt rfl dL_law_245 (by decide) (fun _ => kk m2 h3) (fun q => absurd rfl q)
theorem la_remove (hL : G.2.2.2.2.2.1 = L) (hL2 : L ≤ 1536) (hcs : ce ≤ 600000 ∧ sl ≤ 7302250) (hi : i + 3 ≤ L) (h : StE b mem) (kk : ∀ m2 : xM, StE (b + 31) m2 → E G kL_law lR ce sl m2 653 (lL i) []) : E G kL_law lR ce sl mem 250 (lL i) [] := by
  have v1 : vp_in (nI i + 1) G.2.2.2.2.2.1 := by rw [hL, nI_1]; exact l_vp (by omega) hL2
  have v2 : vp_in (nI i + 2) G.2.2.2.2.2.1 := by rw [hL, show nI i + 2 = nI (i + 2) from nI_add i 2]; exact l_vp (by omega) hL2
  have h0 := h
  obtain ⟨C, M, hC, hM, hI⟩ := h0
  obtain ⟨r, hr⟩ := two_remove (G := G) h (G.2.2.2.2.2.2 (nI i + 1).toNatClampNeg)
  refine E_aload_n dL_law_250 (by rfl) ?_
  refine E_sload_n dL_law_251 (by rfl) ?_
  refine E_iload_n dL_law_252 (by rfl) ?_
  refine E_iconst (v := 1) dL_law_253 (by decide) ?_
  refine E_iadd dL_law_254 ?_
  refine E_sld dL_law_255 v1 ?_
  refine cp_L_law_256 hC.1 (Nat.le_of_ble_eq_true rfl) hcs hr (fun m1 h1 => ?_)
  obtain ⟨⟨M1, hM1⟩, h2⟩ := h1
  refine E_aload_n dL_law_259 (by rfl) ?_
  refine E_sload_n dL_law_260 (by rfl) ?_
  refine E_iload_n dL_law_261 (by rfl) ?_
  refine E_iconst (v := 1) dL_law_262 (by decide) ?_
  refine E_iadd dL_law_263 ?_
  refine E_sld dL_law_264 v1 ?_
  refine cp_L_law_265 hM1.1 (Nat.le_of_ble_eq_true rfl) hcs h2 (fun m2 h3 => ?_)
  refine E_icmp_eq (tgt := 653) r.toInt rfl dL_law_268 (by decide) (fun _ => kk m2 h3) (fun q => absurd rfl q)
theorem la_join (hL : G.2.2.2.2.2.1 = L) (hL2 : L ≤ 1536) (hcs : ce ≤ 600000 ∧ sl ≤ 7302250) (hi : i + 3 ≤ L) (h : StE b mem) (kk : ∀ m2 : xM, StE (b + 31) m2 → E G kL_law lR ce sl m2 653 (lL i) []) : E G kL_law lR ce sl mem 273 (lL i) [] := by
  have v1 : vp_in (nI i + 1) G.2.2.2.2.2.1 := by rw [hL, nI_1]; exact l_vp (by omega) hL2
  have v2 : vp_in (nI i + 2) G.2.2.2.2.2.1 := by rw [hL, show nI i + 2 = nI (i + 2) from nI_add i 2]; exact l_vp (by omega) hL2
  have h0 := h
  obtain ⟨C, M, hC, hM, hI⟩ := h0
  obtain ⟨r, hr⟩ := two_join (G := G) h
  refine E_aload_n dL_law_273 (by rfl) ?_
  refine cp_L_law_274 hC.1 (Nat.le_of_ble_eq_true rfl) hcs hr (fun m1 h1 => ?_)
  obtain ⟨⟨M1, hM1⟩, h2⟩ := h1
  refine E_aload_n dL_law_277 (by rfl) ?_
  refine cp_L_law_278 hM1.1 (Nat.le_of_ble_eq_true rfl) hcs h2 (fun m2 h3 => ?_)
  refine E_icmp_eq (tgt := 653) r.toInt rfl dL_law_281 (by decide) (fun _ => kk m2 h3) (fun q => absurd rfl q)
theorem la_roll (hL : G.2.2.2.2.2.1 = L) (hL2 : L ≤ 1536) (hcs : ce ≤ 600000 ∧ sl ≤ 7302250) (hi : i + 3 ≤ L) (h : StE b mem) (kk : ∀ m2 : xM, StE (b + 31) m2 → E G kL_law lR ce sl m2 653 (lL i) []) : E G kL_law lR ce sl mem 286 (lL i) [] := by
  have v1 : vp_in (nI i + 1) G.2.2.2.2.2.1 := by rw [hL, nI_1]; exact l_vp (by omega) hL2
  have v2 : vp_in (nI i + 2) G.2.2.2.2.2.1 := by rw [hL, show nI i + 2 = nI (i + 2) from nI_add i 2]; exact l_vp (by omega) hL2
  have h0 := h
  obtain ⟨C, M, hC, hM, hI⟩ := h0
  obtain ⟨r, hr⟩ := two_roll (G := G) h (G.2.2.2.2.2.2 (nI i + 1).toNatClampNeg)
  refine E_aload_n dL_law_286 (by rfl) ?_
  refine E_sload_n dL_law_287 (by rfl) ?_
  refine E_iload_n dL_law_288 (by rfl) ?_
  refine E_iconst (v := 1) dL_law_289 (by decide) ?_
  refine E_iadd dL_law_290 ?_
  refine E_sld dL_law_291 v1 ?_
  refine cp_L_law_292 hC.1 (Nat.le_of_ble_eq_true rfl) hcs hr (fun m1 h1 => ?_)
  obtain ⟨⟨M1, hM1⟩, h2⟩ := h1
  refine E_aload_n dL_law_295 (by rfl) ?_
  refine E_sload_n dL_law_296 (by rfl) ?_
  refine E_iload_n dL_law_297 (by rfl) ?_
  refine E_iconst (v := 1) dL_law_298 (by decide) ?_
  refine E_iadd dL_law_299 ?_
  refine E_sld dL_law_300 v1 ?_
  refine cp_L_law_301 hM1.1 (Nat.le_of_ble_eq_true rfl) hcs h2 (fun m2 h3 => ?_)
  refine E_icmp_eq (tgt := 653) r.toInt rfl dL_law_304 (by decide) (fun _ => kk m2 h3) (fun q => absurd rfl q)
theorem la_pass (hL : G.2.2.2.2.2.1 = L) (hL2 : L ≤ 1536) (hcs : ce ≤ 600000 ∧ sl ≤ 7302250) (hi : i + 3 ≤ L) (h : StE b mem) (kk : ∀ m2 : xM, StE (b + 31) m2 → E G kL_law lR ce sl m2 653 (lL i) []) : E G kL_law lR ce sl mem 309 (lL i) [] := by
  have v1 : vp_in (nI i + 1) G.2.2.2.2.2.1 := by rw [hL, nI_1]; exact l_vp (by omega) hL2
  have v2 : vp_in (nI i + 2) G.2.2.2.2.2.1 := by rw [hL, show nI i + 2 = nI (i + 2) from nI_add i 2]; exact l_vp (by omega) hL2
  have h0 := h
  obtain ⟨C, M, hC, hM, hI⟩ := h0
  obtain ⟨r, hr⟩ := two_pass (G := G) h
  refine E_aload_n dL_law_309 (by rfl) ?_
  refine cp_L_law_310 hC.1 (Nat.le_of_ble_eq_true rfl) hcs hr (fun m1 h1 => ?_)
  obtain ⟨⟨M1, hM1⟩, h2⟩ := h1
  refine E_aload_n dL_law_313 (by rfl) ?_
  refine cp_L_law_314 hM1.1 (Nat.le_of_ble_eq_true rfl) hcs h2 (fun m2 h3 => ?_)
  refine E_icmp_eq (tgt := 653) r.toInt rfl dL_law_317 (by decide) (fun _ => kk m2 h3) (fun q => absurd rfl q)
theorem la_climber (hL : G.2.2.2.2.2.1 = L) (hL2 : L ≤ 1536) (hcs : ce ≤ 600000 ∧ sl ≤ 7302250) (hi : i + 3 ≤ L) (h : StE b mem) (kk : ∀ m2 : xM, StE (b + 31) m2 → E G kL_law lR ce sl m2 653 (lL i) []) : E G kL_law lR ce sl mem 322 (lL i) [] := by
  have v1 : vp_in (nI i + 1) G.2.2.2.2.2.1 := by rw [hL, nI_1]; exact l_vp (by omega) hL2
  have v2 : vp_in (nI i + 2) G.2.2.2.2.2.1 := by rw [hL, show nI i + 2 = nI (i + 2) from nI_add i 2]; exact l_vp (by omega) hL2
  have h0 := h
  obtain ⟨C, M, hC, hM, hI⟩ := h0
  obtain ⟨r, hr⟩ := two_climber (G := G) h (G.2.2.2.2.2.2 (nI i + 1).toNatClampNeg) (G.2.2.2.2.2.2 (nI i + 2).toNatClampNeg)
  refine E_aload_n dL_law_322 (by rfl) ?_
  refine E_sload_n dL_law_323 (by rfl) ?_
  refine E_iload_n dL_law_324 (by rfl) ?_
  refine E_iconst (v := 1) dL_law_325 (by decide) ?_
  refine E_iadd dL_law_326 ?_
  refine E_sld dL_law_327 v1 ?_
  refine E_sload_n dL_law_328 (by rfl) ?_
  refine E_iload_n dL_law_329 (by rfl) ?_
  refine E_iconst (v := 2) dL_law_330 (by decide) ?_
  refine E_iadd dL_law_331 ?_
  refine E_sld dL_law_332 v2 ?_
  refine cp_L_law_333 hC.1 (Nat.le_of_ble_eq_true rfl) hcs hr (fun m1 h1 => ?_)
  obtain ⟨⟨M1, hM1⟩, h2⟩ := h1
  refine E_aload_n dL_law_336 (by rfl) ?_
  refine E_sload_n dL_law_337 (by rfl) ?_
  refine E_iload_n dL_law_338 (by rfl) ?_
  refine E_iconst (v := 1) dL_law_339 (by decide) ?_
  refine E_iadd dL_law_340 ?_
  refine E_sld dL_law_341 v1 ?_
  refine E_sload_n dL_law_342 (by rfl) ?_
  refine E_iload_n dL_law_343 (by rfl) ?_
  refine E_iconst (v := 2) dL_law_344 (by decide) ?_
  refine E_iadd dL_law_345 ?_
  refine E_sld dL_law_346 v2 ?_
  refine cp_L_law_347 hM1.1 (Nat.le_of_ble_eq_true rfl) hcs h2 (fun m2 h3 => ?_)
  refine E_icmp_eq (tgt := 653) r.toInt rfl dL_law_350 (by decide) (fun _ => kk m2 h3) (fun q => absurd rfl q)
theorem la_turn (hL : G.2.2.2.2.2.1 = L) (hL2 : L ≤ 1536) (hcs : ce ≤ 600000 ∧ sl ≤ 7302250) (hi : i + 3 ≤ L) (h : StE b mem) (kk : ∀ m2 : xM, StE (b + 31) m2 → E G kL_law lR ce sl m2 653 (lL i) []) : E G kL_law lR ce sl mem 355 (lL i) [] := by
  have v1 : vp_in (nI i + 1) G.2.2.2.2.2.1 := by rw [hL, nI_1]; exact l_vp (by omega) hL2
  have v2 : vp_in (nI i + 2) G.2.2.2.2.2.1 := by rw [hL, show nI i + 2 = nI (i + 2) from nI_add i 2]; exact l_vp (by omega) hL2
  have h0 := h
  obtain ⟨C, M, hC, hM, hI⟩ := h0
  obtain ⟨r, hr⟩ := two_turn (G := G) h
  refine E_aload_n dL_law_355 (by rfl) ?_
  refine cp_L_law_356 hC.1 (Nat.le_of_ble_eq_true rfl) hcs hr (fun m1 h1 => ?_)
  obtain ⟨⟨M1, hM1⟩, h2⟩ := h1
  refine E_aload_n dL_law_359 (by rfl) ?_
  refine cp_L_law_360 hM1.1 (Nat.le_of_ble_eq_true rfl) hcs h2 (fun m2 h3 => ?_)
  refine E_icmp_eq (tgt := 653) r.toInt rfl dL_law_363 (by decide) (fun _ => kk m2 h3) (fun q => absurd rfl q)
theorem la_on (hL : G.2.2.2.2.2.1 = L) (hL2 : L ≤ 1536) (hcs : ce ≤ 600000 ∧ sl ≤ 7302250) (hi : i + 3 ≤ L) (h : StE b mem) (kk : ∀ m2 : xM, StE (b + 31) m2 → E G kL_law lR ce sl m2 653 (lL i) []) : E G kL_law lR ce sl mem 368 (lL i) [] := by
  have v1 : vp_in (nI i + 1) G.2.2.2.2.2.1 := by rw [hL, nI_1]; exact l_vp (by omega) hL2
  have v2 : vp_in (nI i + 2) G.2.2.2.2.2.1 := by rw [hL, show nI i + 2 = nI (i + 2) from nI_add i 2]; exact l_vp (by omega) hL2
  have h0 := h
  obtain ⟨C, M, hC, hM, hI⟩ := h0
  obtain ⟨r, hr⟩ := two_on (G := G) h (G.2.2.2.2.2.2 (nI i + 1).toNatClampNeg)
  refine E_aload_n dL_law_368 (by rfl) ?_
  refine E_sload_n dL_law_369 (by rfl) ?_
  refine E_iload_n dL_law_370 (by rfl) ?_
  refine E_iconst (v := 1) dL_law_371 (by decide) ?_
  refine E_iadd dL_law_372 ?_
  refine E_sld dL_law_373 v1 ?_
  refine cp_L_law_374 hC.1 (Nat.le_of_ble_eq_true rfl) hcs hr (fun m1 h1 => ?_)
  obtain ⟨⟨M1, hM1⟩, h2⟩ := h1
  refine E_aload_n dL_law_377 (by rfl) ?_
  refine E_sload_n dL_law_378 (by rfl) ?_
  refine E_iload_n dL_law_379 (by rfl) ?_
  refine E_iconst (v := 1) dL_law_380 (by decide) ?_
  refine E_iadd dL_law_381 ?_
  refine E_sld dL_law_382 v1 ?_
  refine cp_L_law_383 hM1.1 (Nat.le_of_ble_eq_true rfl) hcs h2 (fun m2 h3 => ?_)
  refine E_icmp_eq (tgt := 653) r.toInt rfl dL_law_386 (by decide) (fun _ => kk m2 h3) (fun q => absurd rfl q)
theorem la_step (hL : G.2.2.2.2.2.1 = L) (hL2 : L ≤ 1536) (hcs : ce ≤ 600000 ∧ sl ≤ 7302250) (hi : i + 3 ≤ L) (h : StE b mem) (kk : ∀ m2 : xM, StE (b + 31) m2 → E G kL_law lR ce sl m2 653 (lL i) []) : E G kL_law lR ce sl mem 391 (lL i) [] := by
  have v1 : vp_in (nI i + 1) G.2.2.2.2.2.1 := by rw [hL, nI_1]; exact l_vp (by omega) hL2
  have v2 : vp_in (nI i + 2) G.2.2.2.2.2.1 := by rw [hL, show nI i + 2 = nI (i + 2) from nI_add i 2]; exact l_vp (by omega) hL2
  have h0 := h
  obtain ⟨C, M, hC, hM, hI⟩ := h0
  obtain ⟨r, hr⟩ := two_step (G := G) h (G.2.2.2.2.2.2 (nI i + 1).toNatClampNeg) (G.2.2.2.2.2.2 (nI i + 2).toNatClampNeg)
  refine E_aload_n dL_law_391 (by rfl) ?_
  refine E_sload_n dL_law_392 (by rfl) ?_
  refine E_iload_n dL_law_393 (by rfl) ?_
  refine E_iconst (v := 1) dL_law_394 (by decide) ?_
  refine E_iadd dL_law_395 ?_
  refine E_sld dL_law_396 v1 ?_
  refine E_sload_n dL_law_397 (by rfl) ?_
  refine E_iload_n dL_law_398 (by rfl) ?_
  refine E_iconst (v := 2) dL_law_399 (by decide) ?_
  refine E_iadd dL_law_400 ?_
  refine E_sld dL_law_401 v2 ?_
  refine cp_L_law_402 hC.1 (Nat.le_of_ble_eq_true rfl) hcs hr (fun m1 h1 => ?_)
  obtain ⟨⟨M1, hM1⟩, h2⟩ := h1
  refine E_aload_n dL_law_405 (by rfl) ?_
  refine E_sload_n dL_law_406 (by rfl) ?_
  refine E_iload_n dL_law_407 (by rfl) ?_
  refine E_iconst (v := 1) dL_law_408 (by decide) ?_
  refine E_iadd dL_law_409 ?_
  refine E_sld dL_law_410 v1 ?_
  refine E_sload_n dL_law_411 (by rfl) ?_
  refine E_iload_n dL_law_412 (by rfl) ?_
  refine E_iconst (v := 2) dL_law_413 (by decide) ?_
  refine E_iadd dL_law_414 ?_
  refine E_sld dL_law_415 v2 ?_
  refine cp_L_law_416 hM1.1 (Nat.le_of_ble_eq_true rfl) hcs h2 (fun m2 h3 => ?_)
  refine E_icmp_eq (tgt := 653) r.toInt rfl dL_law_419 (by decide) (fun _ => kk m2 h3) (fun q => absurd rfl q)
theorem la_total (hL : G.2.2.2.2.2.1 = L) (hL2 : L ≤ 1536) (hcs : ce ≤ 600000 ∧ sl ≤ 7302250) (hi : i + 3 ≤ L) (h : StE b mem) (kk : ∀ m2 : xM, StE (b + 31) m2 → E G kL_law lR ce sl m2 653 (lL i) []) : E G kL_law lR ce sl mem 424 (lL i) [] := by
  have v1 : vp_in (nI i + 1) G.2.2.2.2.2.1 := by rw [hL, nI_1]; exact l_vp (by omega) hL2
  have v2 : vp_in (nI i + 2) G.2.2.2.2.2.1 := by rw [hL, show nI i + 2 = nI (i + 2) from nI_add i 2]; exact l_vp (by omega) hL2
  have h0 := h
  obtain ⟨C, M, hC, hM, hI⟩ := h0
  obtain ⟨r, hr⟩ := two_total (G := G) h (G.2.2.2.2.2.2 (nI i + 1).toNatClampNeg)
  refine E_aload_n dL_law_424 (by rfl) ?_
  refine E_sload_n dL_law_425 (by rfl) ?_
  refine E_iload_n dL_law_426 (by rfl) ?_
  refine E_iconst (v := 1) dL_law_427 (by decide) ?_
  refine E_iadd dL_law_428 ?_
  refine E_sld dL_law_429 v1 ?_
  refine cp_L_law_430 hC.1 (Nat.le_of_ble_eq_true rfl) hcs hr (fun m1 h1 => ?_)
  obtain ⟨⟨M1, hM1⟩, h2⟩ := h1
  refine E_aload_n dL_law_433 (by rfl) ?_
  refine E_sload_n dL_law_434 (by rfl) ?_
  refine E_iload_n dL_law_435 (by rfl) ?_
  refine E_iconst (v := 1) dL_law_436 (by decide) ?_
  refine E_iadd dL_law_437 ?_
  refine E_sld dL_law_438 v1 ?_
  refine cp_L_law_439 hM1.1 (Nat.le_of_ble_eq_true rfl) hcs h2 (fun m2 h3 => ?_)
  refine E_icmp_eq (tgt := 653) r.toInt rfl dL_law_442 (by decide) (fun _ => kk m2 h3) (fun q => absurd rfl q)
theorem la_rank (hL : G.2.2.2.2.2.1 = L) (hL2 : L ≤ 1536) (hcs : ce ≤ 600000 ∧ sl ≤ 7302250) (hi : i + 3 ≤ L) (h : StE b mem) (kk : ∀ m2 : xM, StE (b + 31) m2 → E G kL_law lR ce sl m2 653 (lL i) []) : E G kL_law lR ce sl mem 447 (lL i) [] := by
  have v1 : vp_in (nI i + 1) G.2.2.2.2.2.1 := by rw [hL, nI_1]; exact l_vp (by omega) hL2
  have v2 : vp_in (nI i + 2) G.2.2.2.2.2.1 := by rw [hL, show nI i + 2 = nI (i + 2) from nI_add i 2]; exact l_vp (by omega) hL2
  have h0 := h
  obtain ⟨C, M, hC, hM, hI⟩ := h0
  obtain ⟨r, hr⟩ := two_rank (G := G) h (G.2.2.2.2.2.2 (nI i + 1).toNatClampNeg)
  refine E_aload_n dL_law_447 (by rfl) ?_
  refine E_sload_n dL_law_448 (by rfl) ?_
  refine E_iload_n dL_law_449 (by rfl) ?_
  refine E_iconst (v := 1) dL_law_450 (by decide) ?_
  refine E_iadd dL_law_451 ?_
  refine E_sld dL_law_452 v1 ?_
  refine cp_L_law_453 hC.1 (Nat.le_of_ble_eq_true rfl) hcs hr (fun m1 h1 => ?_)
  obtain ⟨⟨M1, hM1⟩, h2⟩ := h1
  refine E_aload_n dL_law_456 (by rfl) ?_
  refine E_sload_n dL_law_457 (by rfl) ?_
  refine E_iload_n dL_law_458 (by rfl) ?_
  refine E_iconst (v := 1) dL_law_459 (by decide) ?_
  refine E_iadd dL_law_460 ?_
  refine E_sld dL_law_461 v1 ?_
  refine cp_L_law_462 hM1.1 (Nat.le_of_ble_eq_true rfl) hcs h2 (fun m2 h3 => ?_)
  refine E_icmp_eq (tgt := 653) r.toInt rfl dL_law_465 (by decide) (fun _ => kk m2 h3) (fun q => absurd rfl q)
theorem la_ifRolled (hL : G.2.2.2.2.2.1 = L) (hL2 : L ≤ 1536) (hcs : ce ≤ 600000 ∧ sl ≤ 7302250) (hi : i + 3 ≤ L) (h : StE b mem) (kk : ∀ m2 : xM, StE (b + 31) m2 → E G kL_law lR ce sl m2 653 (lL i) []) : E G kL_law lR ce sl mem 470 (lL i) [] := by
  have v1 : vp_in (nI i + 1) G.2.2.2.2.2.1 := by rw [hL, nI_1]; exact l_vp (by omega) hL2
  have v2 : vp_in (nI i + 2) G.2.2.2.2.2.1 := by rw [hL, show nI i + 2 = nI (i + 2) from nI_add i 2]; exact l_vp (by omega) hL2
  have h0 := h
  obtain ⟨C, M, hC, hM, hI⟩ := h0
  obtain ⟨r, hr⟩ := two_ifRolled (G := G) h (G.2.2.2.2.2.2 (nI i + 1).toNatClampNeg) (G.2.2.2.2.2.2 (nI i + 2).toNatClampNeg)
  refine E_aload_n dL_law_470 (by rfl) ?_
  refine E_sload_n dL_law_471 (by rfl) ?_
  refine E_iload_n dL_law_472 (by rfl) ?_
  refine E_iconst (v := 1) dL_law_473 (by decide) ?_
  refine E_iadd dL_law_474 ?_
  refine E_sld dL_law_475 v1 ?_
  refine E_sload_n dL_law_476 (by rfl) ?_
  refine E_iload_n dL_law_477 (by rfl) ?_
  refine E_iconst (v := 2) dL_law_478 (by decide) ?_
  refine E_iadd dL_law_479 ?_
  refine E_sld dL_law_480 v2 ?_
  refine cp_L_law_481 hC.1 (Nat.le_of_ble_eq_true rfl) hcs hr (fun m1 h1 => ?_)
  obtain ⟨⟨M1, hM1⟩, h2⟩ := h1
  refine E_aload_n dL_law_484 (by rfl) ?_
  refine E_sload_n dL_law_485 (by rfl) ?_
  refine E_iload_n dL_law_486 (by rfl) ?_
  refine E_iconst (v := 1) dL_law_487 (by decide) ?_
  refine E_iadd dL_law_488 ?_
  refine E_sld dL_law_489 v1 ?_
  refine E_sload_n dL_law_490 (by rfl) ?_
  refine E_iload_n dL_law_491 (by rfl) ?_
  refine E_iconst (v := 2) dL_law_492 (by decide) ?_
  refine E_iadd dL_law_493 ?_
  refine E_sld dL_law_494 v2 ?_
  refine cp_L_law_495 hM1.1 (Nat.le_of_ble_eq_true rfl) hcs h2 (fun m2 h3 => ?_)
  refine E_icmp_eq (tgt := 653) r.toInt rfl dL_law_498 (by decide) (fun _ => kk m2 h3) (fun q => absurd rfl q)
theorem la_bestRoll (hb : b < 16000) (hL : G.2.2.2.2.2.1 = L) (hL2 : L ≤ 1536) (hcs : ce ≤ 600000 ∧ sl ≤ 7302250) (hi : i + 3 ≤ L) (h : StE b mem) (kk : ∀ m2 : xM, StE (b + 31) m2 → E G kL_law lR ce sl m2 653 (lL i) []) : E G kL_law lR ce sl mem 503 (lL i) [] := by
  have v1 : vp_in (nI i + 1) G.2.2.2.2.2.1 := by rw [hL, nI_1]; exact l_vp (by omega) hL2
  have v2 : vp_in (nI i + 2) G.2.2.2.2.2.1 := by rw [hL, show nI i + 2 = nI (i + 2) from nI_add i 2]; exact l_vp (by omega) hL2
  have h0 := h
  obtain ⟨C, M, hC, hM, hI⟩ := h0
  obtain ⟨r, hr⟩ := two_bestRoll (G := G) hb h
  refine E_aload_n dL_law_503 (by rfl) ?_
  refine cp_L_law_504 hC.1 (Nat.le_of_ble_eq_true rfl) hcs hr (fun m1 h1 => ?_)
  obtain ⟨⟨M1, hM1⟩, h2⟩ := h1
  refine E_aload_n dL_law_507 (by rfl) ?_
  refine cp_L_law_508 hM1.1 (Nat.le_of_ble_eq_true rfl) hcs h2 (fun m2 h3 => ?_)
  refine E_icmp_eq (tgt := 653) r.toInt rfl dL_law_511 (by decide) (fun _ => kk m2 h3) (fun q => absurd rfl q)
theorem la_quietRolls (hL : G.2.2.2.2.2.1 = L) (hL2 : L ≤ 1536) (hcs : ce ≤ 600000 ∧ sl ≤ 7302250) (hi : i + 3 ≤ L) (h : StE b mem) (kk : ∀ m2 : xM, StE (b + 31) m2 → E G kL_law lR ce sl m2 653 (lL i) []) : E G kL_law lR ce sl mem 516 (lL i) [] := by
  have v1 : vp_in (nI i + 1) G.2.2.2.2.2.1 := by rw [hL, nI_1]; exact l_vp (by omega) hL2
  have v2 : vp_in (nI i + 2) G.2.2.2.2.2.1 := by rw [hL, show nI i + 2 = nI (i + 2) from nI_add i 2]; exact l_vp (by omega) hL2
  have h0 := h
  obtain ⟨C, M, hC, hM, hI⟩ := h0
  obtain ⟨r, hr⟩ := two_quietRolls (G := G) h
  refine E_aload_n dL_law_516 (by rfl) ?_
  refine cp_L_law_517 hC.1 (Nat.le_of_ble_eq_true rfl) hcs hr (fun m1 h1 => ?_)
  obtain ⟨⟨M1, hM1⟩, h2⟩ := h1
  refine E_aload_n dL_law_520 (by rfl) ?_
  refine cp_L_law_521 hM1.1 (Nat.le_of_ble_eq_true rfl) hcs h2 (fun m2 h3 => ?_)
  refine E_icmp_eq (tgt := 653) r.toInt rfl dL_law_524 (by decide) (fun _ => kk m2 h3) (fun q => absurd rfl q)
theorem la_rollsToTop (hL : G.2.2.2.2.2.1 = L) (hL2 : L ≤ 1536) (hcs : ce ≤ 600000 ∧ sl ≤ 7302250) (hi : i + 3 ≤ L) (h : StE b mem) (kk : ∀ m2 : xM, StE (b + 31) m2 → E G kL_law lR ce sl m2 653 (lL i) []) : E G kL_law lR ce sl mem 529 (lL i) [] := by
  have v1 : vp_in (nI i + 1) G.2.2.2.2.2.1 := by rw [hL, nI_1]; exact l_vp (by omega) hL2
  have v2 : vp_in (nI i + 2) G.2.2.2.2.2.1 := by rw [hL, show nI i + 2 = nI (i + 2) from nI_add i 2]; exact l_vp (by omega) hL2
  have h0 := h
  obtain ⟨C, M, hC, hM, hI⟩ := h0
  obtain ⟨r, hr⟩ := two_rollsToTop (G := G) h (G.2.2.2.2.2.2 (nI i + 1).toNatClampNeg)
  refine E_aload_n dL_law_529 (by rfl) ?_
  refine E_sload_n dL_law_530 (by rfl) ?_
  refine E_iload_n dL_law_531 (by rfl) ?_
  refine E_iconst (v := 1) dL_law_532 (by decide) ?_
  refine E_iadd dL_law_533 ?_
  refine E_sld dL_law_534 v1 ?_
  refine cp_L_law_535 hC.1 (Nat.le_of_ble_eq_true rfl) hcs hr (fun m1 h1 => ?_)
  obtain ⟨⟨M1, hM1⟩, h2⟩ := h1
  refine E_aload_n dL_law_538 (by rfl) ?_
  refine E_sload_n dL_law_539 (by rfl) ?_
  refine E_iload_n dL_law_540 (by rfl) ?_
  refine E_iconst (v := 1) dL_law_541 (by decide) ?_
  refine E_iadd dL_law_542 ?_
  refine E_sld dL_law_543 v1 ?_
  refine cp_L_law_544 hM1.1 (Nat.le_of_ble_eq_true rfl) hcs h2 (fun m2 h3 => ?_)
  refine E_icmp_eq (tgt := 653) r.toInt rfl dL_law_547 (by decide) (fun _ => kk m2 h3) (fun q => absurd rfl q)
theorem la_append (hL : G.2.2.2.2.2.1 = L) (hL2 : L ≤ 1536) (hcs : ce ≤ 600000 ∧ sl ≤ 7302250) (hi : i + 3 ≤ L) (h : StE b mem) (kk : ∀ m2 : xM, StE (b + 31) m2 → E G kL_law lR ce sl m2 653 (lL i) []) : E G kL_law lR ce sl mem 552 (lL i) [] := by
  have v1 : vp_in (nI i + 1) G.2.2.2.2.2.1 := by rw [hL, nI_1]; exact l_vp (by omega) hL2
  have v2 : vp_in (nI i + 2) G.2.2.2.2.2.1 := by rw [hL, show nI i + 2 = nI (i + 2) from nI_add i 2]; exact l_vp (by omega) hL2
  have h0 := h
  obtain ⟨C, M, hC, hM, hI⟩ := h0
  obtain ⟨r, hr⟩ := two_append (G := G) h (G.2.2.2.2.2.2 (nI i + 1).toNatClampNeg)
  refine E_aload_n dL_law_552 (by rfl) ?_
  refine E_sload_n dL_law_553 (by rfl) ?_
  refine E_iload_n dL_law_554 (by rfl) ?_
  refine E_iconst (v := 1) dL_law_555 (by decide) ?_
  refine E_iadd dL_law_556 ?_
  refine E_sld dL_law_557 v1 ?_
  refine cp_L_law_558 hC.1 (Nat.le_of_ble_eq_true rfl) hcs hr (fun m1 h1 => ?_)
  obtain ⟨⟨M1, hM1⟩, h2⟩ := h1
  refine E_aload_n dL_law_561 (by rfl) ?_
  refine E_sload_n dL_law_562 (by rfl) ?_
  refine E_iload_n dL_law_563 (by rfl) ?_
  refine E_iconst (v := 1) dL_law_564 (by decide) ?_
  refine E_iadd dL_law_565 ?_
  refine E_sld dL_law_566 v1 ?_
  refine cp_L_law_567 hM1.1 (Nat.le_of_ble_eq_true rfl) hcs h2 (fun m2 h3 => ?_)
  refine E_icmp_eq (tgt := 653) r.toInt rfl dL_law_570 (by decide) (fun _ => kk m2 h3) (fun q => absurd rfl q)
theorem la_clearText (hL : G.2.2.2.2.2.1 = L) (hL2 : L ≤ 1536) (hcs : ce ≤ 600000 ∧ sl ≤ 7302250) (hi : i + 3 ≤ L) (h : StE b mem) (kk : ∀ m2 : xM, StE (b + 31) m2 → E G kL_law lR ce sl m2 653 (lL i) []) : E G kL_law lR ce sl mem 575 (lL i) [] := by
  have v1 : vp_in (nI i + 1) G.2.2.2.2.2.1 := by rw [hL, nI_1]; exact l_vp (by omega) hL2
  have v2 : vp_in (nI i + 2) G.2.2.2.2.2.1 := by rw [hL, show nI i + 2 = nI (i + 2) from nI_add i 2]; exact l_vp (by omega) hL2
  have h0 := h
  obtain ⟨C, M, hC, hM, hI⟩ := h0
  obtain ⟨r, hr⟩ := two_clearText (G := G) h
  refine E_aload_n dL_law_575 (by rfl) ?_
  refine cp_L_law_576 hC.1 (Nat.le_of_ble_eq_true rfl) hcs hr (fun m1 h1 => ?_)
  obtain ⟨⟨M1, hM1⟩, h2⟩ := h1
  refine E_aload_n dL_law_579 (by rfl) ?_
  refine cp_L_law_580 hM1.1 (Nat.le_of_ble_eq_true rfl) hcs h2 (fun m2 h3 => ?_)
  refine E_icmp_eq (tgt := 653) r.toInt rfl dL_law_583 (by decide) (fun _ => kk m2 h3) (fun q => absurd rfl q)
theorem la_errorPosition (hL : G.2.2.2.2.2.1 = L) (hL2 : L ≤ 1536) (hcs : ce ≤ 600000 ∧ sl ≤ 7302250) (hi : i + 3 ≤ L) (h : StE b mem) (kk : ∀ m2 : xM, StE (b + 31) m2 → E G kL_law lR ce sl m2 653 (lL i) []) : E G kL_law lR ce sl mem 588 (lL i) [] := by
  have v1 : vp_in (nI i + 1) G.2.2.2.2.2.1 := by rw [hL, nI_1]; exact l_vp (by omega) hL2
  have v2 : vp_in (nI i + 2) G.2.2.2.2.2.1 := by rw [hL, show nI i + 2 = nI (i + 2) from nI_add i 2]; exact l_vp (by omega) hL2
  have h0 := h
  obtain ⟨C, M, hC, hM, hI⟩ := h0
  obtain ⟨r, hr⟩ := two_errorPosition (G := G) h
  refine E_aload_n dL_law_588 (by rfl) ?_
  refine cp_L_law_589 hC.1 (Nat.le_of_ble_eq_true rfl) hcs hr (fun m1 h1 => ?_)
  obtain ⟨⟨M1, hM1⟩, h2⟩ := h1
  refine E_aload_n dL_law_592 (by rfl) ?_
  refine cp_L_law_593 hM1.1 (Nat.le_of_ble_eq_true rfl) hcs h2 (fun m2 h3 => ?_)
  refine E_icmp_eq (tgt := 653) r.toInt rfl dL_law_596 (by decide) (fun _ => kk m2 h3) (fun q => absurd rfl q)
theorem la_play (hL : G.2.2.2.2.2.1 = L) (hL2 : L ≤ 1536) (hcs : ce ≤ 600000 ∧ sl ≤ 7302250) (hi : i + 3 ≤ L) (h : StE b mem) (kk : ∀ m2 : xM, StE (b + 31) m2 → E G kL_law lR ce sl m2 653 (lL i) []) : E G kL_law lR ce sl mem 601 (lL i) [] := by
  have v1 : vp_in (nI i + 1) G.2.2.2.2.2.1 := by rw [hL, nI_1]; exact l_vp (by omega) hL2
  have v2 : vp_in (nI i + 2) G.2.2.2.2.2.1 := by rw [hL, show nI i + 2 = nI (i + 2) from nI_add i 2]; exact l_vp (by omega) hL2
  have h0 := h
  obtain ⟨C, M, hC, hM, hI⟩ := h0
  obtain ⟨r, hr⟩ := two_play (G := G) h
  refine E_aload_n dL_law_601 (by rfl) ?_
  refine cp_L_law_602 hC.1 (Nat.le_of_ble_eq_true rfl) hcs hr (fun m1 h1 => ?_)
  obtain ⟨⟨M1, hM1⟩, h2⟩ := h1
  refine E_aload_n dL_law_605 (by rfl) ?_
  refine cp_L_law_606 hM1.1 (Nat.le_of_ble_eq_true rfl) hcs h2 (fun m2 h3 => ?_)
  refine E_icmp_eq (tgt := 653) r.toInt rfl dL_law_609 (by decide) (fun _ => kk m2 h3) (fun q => absurd rfl q)
theorem la_undo (hL : G.2.2.2.2.2.1 = L) (hL2 : L ≤ 1536) (hcs : ce ≤ 600000 ∧ sl ≤ 7302250) (hi : i + 3 ≤ L) (h : StE b mem) (kk : ∀ m2 : xM, StE (b + 31) m2 → E G kL_law lR ce sl m2 653 (lL i) []) : E G kL_law lR ce sl mem 614 (lL i) [] := by
  have v1 : vp_in (nI i + 1) G.2.2.2.2.2.1 := by rw [hL, nI_1]; exact l_vp (by omega) hL2
  have v2 : vp_in (nI i + 2) G.2.2.2.2.2.1 := by rw [hL, show nI i + 2 = nI (i + 2) from nI_add i 2]; exact l_vp (by omega) hL2
  have h0 := h
  obtain ⟨C, M, hC, hM, hI⟩ := h0
  obtain ⟨r, hr⟩ := two_undo (G := G) h
  refine E_aload_n dL_law_614 (by rfl) ?_
  refine cp_L_law_615 hC.1 (Nat.le_of_ble_eq_true rfl) hcs hr (fun m1 h1 => ?_)
  obtain ⟨⟨M1, hM1⟩, h2⟩ := h1
  refine E_aload_n dL_law_618 (by rfl) ?_
  refine cp_L_law_619 hM1.1 (Nat.le_of_ble_eq_true rfl) hcs h2 (fun m2 h3 => ?_)
  refine E_icmp_eq (tgt := 653) r.toInt rfl dL_law_622 (by decide) (fun _ => kk m2 h3) (fun q => absurd rfl q)
theorem la_save (hL : G.2.2.2.2.2.1 = L) (hL2 : L ≤ 1536) (hcs : ce ≤ 600000 ∧ sl ≤ 7302250) (hi : i + 3 ≤ L) (h : StE b mem) (kk : ∀ m2 : xM, StE (b + 31) m2 → E G kL_law lR ce sl m2 653 (lL i) []) : E G kL_law lR ce sl mem 627 (lL i) [] := by
  have v1 : vp_in (nI i + 1) G.2.2.2.2.2.1 := by rw [hL, nI_1]; exact l_vp (by omega) hL2
  have v2 : vp_in (nI i + 2) G.2.2.2.2.2.1 := by rw [hL, show nI i + 2 = nI (i + 2) from nI_add i 2]; exact l_vp (by omega) hL2
  have h0 := h
  obtain ⟨C, M, hC, hM, hI⟩ := h0
  obtain ⟨r, hr⟩ := two_save (G := G) h
  refine E_aload_n dL_law_627 (by rfl) ?_
  refine cp_L_law_628 hC.1 (Nat.le_of_ble_eq_true rfl) hcs hr (fun m1 h1 => ?_)
  obtain ⟨⟨M1, hM1⟩, h2⟩ := h1
  refine E_aload_n dL_law_631 (by rfl) ?_
  refine cp_L_law_632 hM1.1 (Nat.le_of_ble_eq_true rfl) hcs h2 (fun m2 h3 => ?_)
  refine E_icmp_eq (tgt := 653) r.toInt rfl dL_law_635 (by decide) (fun _ => kk m2 h3) (fun q => absurd rfl q)
theorem la_restore (hL : G.2.2.2.2.2.1 = L) (hL2 : L ≤ 1536) (hcs : ce ≤ 600000 ∧ sl ≤ 7302250) (hi : i + 3 ≤ L) (h : StE b mem) (kk : ∀ m2 : xM, StE (b + 31) m2 → E G kL_law lR ce sl m2 653 (lL i) []) : E G kL_law lR ce sl mem 640 (lL i) [] := by
  have v1 : vp_in (nI i + 1) G.2.2.2.2.2.1 := by rw [hL, nI_1]; exact l_vp (by omega) hL2
  have v2 : vp_in (nI i + 2) G.2.2.2.2.2.1 := by rw [hL, show nI i + 2 = nI (i + 2) from nI_add i 2]; exact l_vp (by omega) hL2
  have h0 := h
  obtain ⟨C, M, hC, hM, hI⟩ := h0
  obtain ⟨r, hr⟩ := two_restore (G := G) h
  refine E_aload_n dL_law_640 (by rfl) ?_
  refine cp_L_law_641 hC.1 (Nat.le_of_ble_eq_true rfl) hcs hr (fun m1 h1 => ?_)
  obtain ⟨⟨M1, hM1⟩, h2⟩ := h1
  refine E_aload_n dL_law_644 (by rfl) ?_
  refine cp_L_law_645 hM1.1 (Nat.le_of_ble_eq_true rfl) hcs h2 (fun m2 h3 => ?_)
  refine E_icmp_eq (tgt := 653) r.toInt rfl dL_law_648 (by decide) (fun _ => kk m2 h3) (fun q => absurd rfl q)
theorem la_any (hb : b < 16000) (hL : G.2.2.2.2.2.1 = L) (hL2 : L ≤ 1536) (hcs : ce ≤ 600000 ∧ sl ≤ 7302250) (hi : i + 3 ≤ L) (h : StE b mem) (x : Int32) (kk : ∀ m2 : xM, StE (b + 31) m2 → E G kL_law lR ce sl m2 653 (lL i) []) : E G kL_law lR ce sl mem 32 (lL i) [.int x] := by
  by_cases out : x.toInt < 0 ∨ 24 < x.toInt
  · refine E_tableOut (tgt := 653) dL_law_32 out (by decide) (kk mem ?_)
    obtain ⟨C, M, hC, hM, hI⟩ := h
    exact ⟨C, M, hC, hM, hI.mono (by omega)⟩
  by_cases c0 : x.toInt = 0
  · refine E_tableIn (off := 116) (tgt := 148) dL_law_32 (by omega) (by omega) (by rw [c0]; rfl) (by decide) ?_
    exact la_setTop hL hL2 hcs hi h kk
  by_cases c1 : x.toInt = 1
  · refine E_tableIn (off := 139) (tgt := 171) dL_law_32 (by omega) (by omega) (by rw [c1]; rfl) (by decide) ?_
    exact la_lay hL hL2 hcs hi h kk
  by_cases c2 : x.toInt = 2
  · refine E_tableIn (off := 172) (tgt := 204) dL_law_32 (by omega) (by omega) (by rw [c2]; rfl) (by decide) ?_
    exact la_take hL hL2 hcs hi h kk
  by_cases c3 : x.toInt = 3
  · refine E_tableIn (off := 195) (tgt := 227) dL_law_32 (by omega) (by omega) (by rw [c3]; rfl) (by decide) ?_
    exact la_put hL hL2 hcs hi h kk
  by_cases c4 : x.toInt = 4
  · refine E_tableIn (off := 218) (tgt := 250) dL_law_32 (by omega) (by omega) (by rw [c4]; rfl) (by decide) ?_
    exact la_remove hL hL2 hcs hi h kk
  by_cases c5 : x.toInt = 5
  · refine E_tableIn (off := 241) (tgt := 273) dL_law_32 (by omega) (by omega) (by rw [c5]; rfl) (by decide) ?_
    exact la_join hL hL2 hcs hi h kk
  by_cases c6 : x.toInt = 6
  · refine E_tableIn (off := 254) (tgt := 286) dL_law_32 (by omega) (by omega) (by rw [c6]; rfl) (by decide) ?_
    exact la_roll hL hL2 hcs hi h kk
  by_cases c7 : x.toInt = 7
  · refine E_tableIn (off := 277) (tgt := 309) dL_law_32 (by omega) (by omega) (by rw [c7]; rfl) (by decide) ?_
    exact la_pass hL hL2 hcs hi h kk
  by_cases c8 : x.toInt = 8
  · refine E_tableIn (off := 290) (tgt := 322) dL_law_32 (by omega) (by omega) (by rw [c8]; rfl) (by decide) ?_
    exact la_climber hL hL2 hcs hi h kk
  by_cases c9 : x.toInt = 9
  · refine E_tableIn (off := 323) (tgt := 355) dL_law_32 (by omega) (by omega) (by rw [c9]; rfl) (by decide) ?_
    exact la_turn hL hL2 hcs hi h kk
  by_cases c10 : x.toInt = 10
  · refine E_tableIn (off := 336) (tgt := 368) dL_law_32 (by omega) (by omega) (by rw [c10]; rfl) (by decide) ?_
    exact la_on hL hL2 hcs hi h kk
  by_cases c11 : x.toInt = 11
  · refine E_tableIn (off := 359) (tgt := 391) dL_law_32 (by omega) (by omega) (by rw [c11]; rfl) (by decide) ?_
    exact la_step hL hL2 hcs hi h kk
  by_cases c12 : x.toInt = 12
  · refine E_tableIn (off := 392) (tgt := 424) dL_law_32 (by omega) (by omega) (by rw [c12]; rfl) (by decide) ?_
    exact la_total hL hL2 hcs hi h kk
  by_cases c13 : x.toInt = 13
  · refine E_tableIn (off := 415) (tgt := 447) dL_law_32 (by omega) (by omega) (by rw [c13]; rfl) (by decide) ?_
    exact la_rank hL hL2 hcs hi h kk
  by_cases c14 : x.toInt = 14
  · refine E_tableIn (off := 438) (tgt := 470) dL_law_32 (by omega) (by omega) (by rw [c14]; rfl) (by decide) ?_
    exact la_ifRolled hL hL2 hcs hi h kk
  by_cases c15 : x.toInt = 15
  · refine E_tableIn (off := 471) (tgt := 503) dL_law_32 (by omega) (by omega) (by rw [c15]; rfl) (by decide) ?_
    exact la_bestRoll hb hL hL2 hcs hi h kk
  by_cases c16 : x.toInt = 16
  · refine E_tableIn (off := 484) (tgt := 516) dL_law_32 (by omega) (by omega) (by rw [c16]; rfl) (by decide) ?_
    exact la_quietRolls hL hL2 hcs hi h kk
  by_cases c17 : x.toInt = 17
  · refine E_tableIn (off := 497) (tgt := 529) dL_law_32 (by omega) (by omega) (by rw [c17]; rfl) (by decide) ?_
    exact la_rollsToTop hL hL2 hcs hi h kk
  by_cases c18 : x.toInt = 18
  · refine E_tableIn (off := 520) (tgt := 552) dL_law_32 (by omega) (by omega) (by rw [c18]; rfl) (by decide) ?_
    exact la_append hL hL2 hcs hi h kk
  by_cases c19 : x.toInt = 19
  · refine E_tableIn (off := 543) (tgt := 575) dL_law_32 (by omega) (by omega) (by rw [c19]; rfl) (by decide) ?_
    exact la_clearText hL hL2 hcs hi h kk
  by_cases c20 : x.toInt = 20
  · refine E_tableIn (off := 556) (tgt := 588) dL_law_32 (by omega) (by omega) (by rw [c20]; rfl) (by decide) ?_
    exact la_errorPosition hL hL2 hcs hi h kk
  by_cases c21 : x.toInt = 21
  · refine E_tableIn (off := 569) (tgt := 601) dL_law_32 (by omega) (by omega) (by rw [c21]; rfl) (by decide) ?_
    exact la_play hL hL2 hcs hi h kk
  by_cases c22 : x.toInt = 22
  · refine E_tableIn (off := 582) (tgt := 614) dL_law_32 (by omega) (by omega) (by rw [c22]; rfl) (by decide) ?_
    exact la_undo hL hL2 hcs hi h kk
  by_cases c23 : x.toInt = 23
  · refine E_tableIn (off := 595) (tgt := 627) dL_law_32 (by omega) (by omega) (by rw [c23]; rfl) (by decide) ?_
    exact la_save hL hL2 hcs hi h kk
  have c24 : x.toInt = 24 := by omega
  refine E_tableIn (off := 608) (tgt := 640) dL_law_32 (by omega) (by omega) (by rw [c24]; rfl) (by decide) ?_
  exact la_restore hL hL2 hcs hi h kk
theorem la_one (hcs : ce ≤ 600000 ∧ sl ≤ 7302250) : E G kL_law lR ce sl mem 659 (lL i) [] := by
  refine E_iconst (v := 1) dL_law_659 (by decide) ?_
  exact E_iret dL_law_660 rfl rfl hcs.1 hcs.2 rfl
theorem la_loop (hL : G.2.2.2.2.2.1 = L) (hL2 : L ≤ 1536) (hcs : ce ≤ 600000 ∧ sl ≤ 7302250) : ∀ (u j : Nat) (mem : xM), StE (31 * j) mem → j ≤ 1000 → L < 3 * (j + u) + 3 → E G kL_law lR ce sl mem 18 (lL (3 * j)) []
  | u, j, mem, h, hj, hu => by
    have e3 : (nI L - 3).toInt = (L : Int) - 3 := by
      have d3 : (3 : Int32).toInt = 3 := by decide
      rw [i_sub (by rw [nI_toInt (by omega)]; omega) (by rw [nI_toInt (by omega)]; omega), nI_toInt (by omega), d3]
    have ei : (nI (3 * j)).toInt = ((3 * j : Nat) : Int) := nI_toInt (by omega)
    refine E_iload_n dL_law_18 (by rfl) ?_
    refine E_sload_n dL_law_19 (by rfl) ?_
    refine E_slen (v := nI L) dL_law_20 (by rw [hL]; rfl) ?_
    refine E_iconst (v := 3) dL_law_21 (by decide) ?_
    refine E_isub dL_law_22 ?_
    refine E_icmp_gt (tgt := 659) _ e3 dL_law_23 (by decide) (fun _ => la_one hcs) (fun q => ?_)
    match u with
    | 0 => exact absurd q (by omega)
    | u + 1 =>
      have hi : 3 * j + 3 ≤ L := by omega
      refine E_sload_n dL_law_26 (by rfl) ?_
      refine E_iload_n dL_law_27 (by rfl) ?_
      refine E_sld dL_law_28 (by rw [hL]; exact l_vp (by omega) hL2) ?_
      refine E_bipush (v := 31) dL_law_29 (by decide) ?_
      refine E_iand dL_law_31 ?_
      refine la_any (by omega) hL hL2 hcs hi h _ (fun m2 h2 => ?_)
      refine E_iinc (d := 3) dL_law_653 (by rfl) (by decide) (Nat.le_of_ble_eq_true rfl) (by rfl) ?_
      refine E_goto (tgt := 18) dL_law_656 (by decide) ?_
      exact E_loc [(0, .float 0), (1, .ref 0), (2, .ref 86), (3, .int (nI (3 * (j + 1))))] ⟨rfl, rfl, rfl, x_i (nI_add (3 * j) 3), trivial⟩ (la_loop hL hL2 hcs u (j + 1) m2 (by rw [show 31 * (j + 1) = 31 * j + 31 by omega]; exact h2) (by omega) (by omega))
theorem x_dv3 : ∀ j, j < 7 → defaultValue (tyX3 j) = vp_V (([.null, .null, .null, .null, .null, .null, .int 0] : List Value).map (x_v G)) j := by
  intro j hj
  match j, hj with
  | 0, _ => rfl
  | 1, _ => rfl
  | 2, _ => rfl
  | 3, _ => rfl
  | 4, _ => rfl
  | 5, _ => rfl
  | 6, _ => rfl
theorem x_dv4 : ∀ j, j < 13 → defaultValue (tyX4 j) = vp_V (([.null, .null, .int 0, .null, .int 0, .null, .null, .int 0, .null, .null, .int 0, .int 0, .int 0] : List Value).map (x_v G)) j := by
  intro j hj
  match j, hj with
  | 0, _ => rfl
  | 1, _ => rfl
  | 2, _ => rfl
  | 3, _ => rfl
  | 4, _ => rfl
  | 5, _ => rfl
  | 6, _ => rfl
  | 7, _ => rfl
  | 8, _ => rfl
  | 9, _ => rfl
  | 10, _ => rfl
  | 11, _ => rfl
  | 12, _ => rfl
theorem StE_0 : StE 0 (cM0 ++ mCells mS0) := ⟨cS0, mS0, cAt_0 _, ⟨rfl, rfl, rfl, rfl, rfl, rfl, rfl, rfl⟩, Inv_0⟩
theorem la_entry (hL : G.2.2.2.2.2.1 = L) (hL2 : L ≤ 1536) : E G kL_law lR 0 0 [] 0 (x_L [(0, .float 0)]) [] := by
  refine E_newL (L := 0) (T := TX3) (N := 7) (ci := 3) rfl dL_law_0 xin_X3 tyX3_ok rfl wk_L_7 wt_X3 wn_RX3 rfl x_dv3 (Nat.le_of_ble_eq_true rfl) (Nat.le_of_ble_eq_true rfl) ?_
  refine E_mem (mem' := [k_oN]) rfl ?_
  refine E_dup dL_law_3 rfl ?_
  refine cs_L_law_4 (Nat.le_of_ble_eq_true rfl) ⟨Nat.le_of_ble_eq_true rfl, Nat.le_of_ble_eq_true rfl⟩ c_Class_init ?_
  refine E_astore_n dL_law_7 (Nat.le_of_ble_eq_true rfl) (by rfl) ?_
  refine E_newL (L := 86) (T := TX4) (N := 13) (ci := 4) rfl dL_law_8 xin_X4 tyX4_ok rfl wk_L_10 wt_X4 wn_RX4 rfl x_dv4 (Nat.le_of_ble_eq_true rfl) (Nat.le_of_ble_eq_true rfl) ?_
  refine E_dup dL_law_11 rfl ?_
  refine cs_L_law_12 (Nat.le_of_ble_eq_true rfl) ⟨Nat.le_of_ble_eq_true rfl, Nat.le_of_ble_eq_true rfl⟩ (n_init cM0 rfl) ?_
  refine E_astore_n dL_law_15 (Nat.le_of_ble_eq_true rfl) (by rfl) ?_
  refine E_iconst (v := 0) dL_law_16 (by decide) ?_
  refine E_istore_n dL_law_17 (Nat.le_of_ble_eq_true rfl) (by rfl) ?_
  exact E_loc [(0, .float 0), (1, .ref 0), (2, .ref 86), (3, .int (nI (3 * 0)))] ⟨rfl, rfl, rfl, rfl, trivial⟩ (la_loop hL hL2 ⟨Nat.le_of_ble_eq_true rfl, Nat.le_of_ble_eq_true rfl⟩ 600 0 _ StE_0 (by omega) (by omega))
end LW
