/-! LiftingStairs: its state; what reads and what records -/
abbrev t_o (len : Int32) : va_E := .inr (2, [.ref 85, .int len])
abbrev t_s (f : Nat → Int32) : va_E := .inl (2, 60, .inl f)
section K1
variable {G : xG} {mem m' : xM} {g : Nat} {S T A : gS} {t n : Nat}
/-- game, ahead, trial, saved; hasSaved; how many are recorded, and which; how many signs, and which -/
abbrev cS : Type := gS × gS × gS × gS × Int32 × Nat × (Nat → gS) × Nat × (Nat → Int32)
abbrev k_gm (C : cS) : gS := C.1
abbrev k_ah (C : cS) : gS := C.2.1
abbrev k_tr (C : cS) : gS := C.2.2.1
abbrev k_sv (C : cS) : gS := C.2.2.2.1
abbrev k_hs (C : cS) : Int32 := C.2.2.2.2.1
abbrev k_c (C : cS) : Nat := C.2.2.2.2.2.1
abbrev k_h (C : cS) : Nat → gS := C.2.2.2.2.2.2.1
abbrev k_n (C : cS) : Nat := C.2.2.2.2.2.2.2.1
abbrev k_f (C : cS) : Nat → Int32 := C.2.2.2.2.2.2.2.2
abbrev k_o (hs : Int32) : va_E := .inr (3, [.ref 1, .ref 10, .ref 19, .ref 28, .ref 37, .ref 84, .int hs])
def cAt (mem : xM) (C : cS) : Prop := mem[0]? = some (k_o (k_hs C)) ∧ gAt mem 1 (k_gm C) ∧ gAt mem 10 (k_ah C) ∧ gAt mem 19 (k_tr C) ∧ gAt mem 28 (k_sv C) ∧ (∃ p, hAt mem (k_c C) p (k_h C)) ∧ mem[84]? = some (t_o (nI (k_n C))) ∧ mem[85]? = some (t_s (k_f C))
/-- the other cells stay -/
def xS86 (mem m' : xM) : Prop := ∀ i, 86 ≤ i → m'[i]? = mem[i]?
theorem xS86.rf : xS86 mem mem := fun _ _ => rfl
theorem xS86.tr {m2 : xM} (h : xS86 mem m') (h2 : xS86 m' m2) : xS86 mem m2 := fun i hi => (h2 i hi).trans (h i hi)
theorem xS86.put (h : gAt mem g S) (hg : g + 9 ≤ 86) : xS86 mem (gPut mem g T) := fun i hi => gPut_other h T (by omega)
theorem xS86.set {i : Nat} {c : va_E} (hi : i < 86) : xS86 mem (mem.set i c) := fun j hj => List.getElem?_set_ne (by omega)
theorem hAt_put {c : Nat} {p : Nat → Nat} {h : Nat → gS} (hg : gAt mem g S) (hg37 : g + 9 ≤ 37) (hh : hAt mem c p h) : hAt (gPut mem g T) c p h := by
  obtain ⟨h0, ⟨f, h1, hf⟩, h2, h3, h4⟩ := hh
  exact ⟨(gPut_other hg T (by omega)).trans h0, ⟨f, (gPut_other hg T (by omega)).trans h1, hf⟩, fun j hj => gAt_other hg (h2 j hj) (Or.inr (by have := h3 j hj; omega)) T, h3, h4⟩
theorem hAt_set {c i : Nat} {p : Nat → Nat} {h : Nat → gS} {x : va_E} (hi : i < 37 ∨ 84 ≤ i) (hh : hAt mem c p h) : hAt (mem.set i x) c p h := by
  obtain ⟨h0, ⟨f, h1, hf⟩, h2, h3, h4⟩ := hh
  exact ⟨x_get_set h0 (by omega), ⟨f, x_get_set h1 (by omega), hf⟩, fun j hj => gAt_set (h2 j hj) (by have := h3 j hj; omega), h3, h4⟩
theorem x_get_put {i : Nat} {d : va_E} (hg : gAt mem g S) (h : mem[i]? = some d) (hi : i < g ∨ g + 9 ≤ i) : (gPut mem g T)[i]? = some d := (gPut_other hg T hi).trans h
theorem cAt_gm {C : cS} (h : cAt mem C) (T : gS) : cAt (gPut mem 1 T) (T, C.2) := by
  obtain ⟨h0, h1, h2, h3, h4, ⟨p, h5⟩, h6, h7⟩ := h
  exact ⟨x_get_put h1 h0 (by decide), gAt_put h1 T, gAt_other h1 h2 (by decide) T, gAt_other h1 h3 (by decide) T, gAt_other h1 h4 (by decide) T, ⟨p, hAt_put h1 (by decide) h5⟩, x_get_put h1 h6 (by decide), x_get_put h1 h7 (by decide)⟩
theorem cAt_ah {C : cS} (h : cAt mem C) (T : gS) : cAt (gPut mem 10 T) (C.1, T, C.2.2) := by
  obtain ⟨h0, h1, h2, h3, h4, ⟨p, h5⟩, h6, h7⟩ := h
  exact ⟨x_get_put h2 h0 (by decide), gAt_other h2 h1 (by decide) T, gAt_put h2 T, gAt_other h2 h3 (by decide) T, gAt_other h2 h4 (by decide) T, ⟨p, hAt_put h2 (by decide) h5⟩, x_get_put h2 h6 (by decide), x_get_put h2 h7 (by decide)⟩
theorem cAt_tr {C : cS} (h : cAt mem C) (T : gS) : cAt (gPut mem 19 T) (C.1, C.2.1, T, C.2.2.2) := by
  obtain ⟨h0, h1, h2, h3, h4, ⟨p, h5⟩, h6, h7⟩ := h
  exact ⟨x_get_put h3 h0 (by decide), gAt_other h3 h1 (by decide) T, gAt_other h3 h2 (by decide) T, gAt_put h3 T, gAt_other h3 h4 (by decide) T, ⟨p, hAt_put h3 (by decide) h5⟩, x_get_put h3 h6 (by decide), x_get_put h3 h7 (by decide)⟩
theorem cAt_sv {C : cS} (h : cAt mem C) (T : gS) : cAt (gPut mem 28 T) (C.1, C.2.1, C.2.2.1, T, C.2.2.2.2) := by
  obtain ⟨h0, h1, h2, h3, h4, ⟨p, h5⟩, h6, h7⟩ := h
  exact ⟨x_get_put h4 h0 (by decide), gAt_other h4 h1 (by decide) T, gAt_other h4 h2 (by decide) T, gAt_other h4 h3 (by decide) T, gAt_put h4 T, ⟨p, hAt_put h4 (by decide) h5⟩, x_get_put h4 h6 (by decide), x_get_put h4 h7 (by decide)⟩
theorem cAt_hs {C : cS} (h : cAt mem C) (x : Int32) : cAt (mem.set 0 (k_o x)) (C.1, C.2.1, C.2.2.1, C.2.2.2.1, x, C.2.2.2.2.2) := by
  obtain ⟨h0, h1, h2, h3, h4, ⟨p, h5⟩, h6, h7⟩ := h
  exact ⟨x_get_same h0, gAt_set h1 (by decide), gAt_set h2 (by decide), gAt_set h3 (by decide), gAt_set h4 (by decide), ⟨p, hAt_set (by decide) h5⟩, x_get_set h6 (by decide), x_get_set h7 (by decide)⟩
theorem cAt_t {C : cS} (h : cAt mem C) (n : Nat) : cAt (mem.set 84 (t_o (nI n))) (C.1, C.2.1, C.2.2.1, C.2.2.2.1, C.2.2.2.2.1, C.2.2.2.2.2.1, C.2.2.2.2.2.2.1, n, C.2.2.2.2.2.2.2.2) := by
  obtain ⟨h0, h1, h2, h3, h4, ⟨p, h5⟩, h6, h7⟩ := h
  exact ⟨x_get_set h0 (by decide), gAt_set h1 (by decide), gAt_set h2 (by decide), gAt_set h3 (by decide), gAt_set h4 (by decide), ⟨p, hAt_set (by decide) h5⟩, x_get_same h6, x_get_set h7 (by decide)⟩
theorem cAt_s {C : cS} (h : cAt mem C) (f : Nat → Int32) : cAt (mem.set 85 (t_s f)) (C.1, C.2.1, C.2.2.1, C.2.2.2.1, C.2.2.2.2.1, C.2.2.2.2.2.1, C.2.2.2.2.2.2.1, C.2.2.2.2.2.2.2.1, f) := by
  obtain ⟨h0, h1, h2, h3, h4, ⟨p, h5⟩, h6, h7⟩ := h
  exact ⟨x_get_set h0 (by decide), gAt_set h1 (by decide), gAt_set h2 (by decide), gAt_set h3 (by decide), gAt_set h4 (by decide), ⟨p, hAt_set (by decide) h5⟩, x_get_set h6 (by decide), x_get_same h7⟩
def hPush (c : Nat) (h : Nat → gS) (A : gS) : Nat → gS := if c < 5 then fun j => if j = c then A else h j else fun j => if j < 4 then h (j + 1) else A
abbrev cRec (C : cS) : cS := (C.1, C.2.1, C.2.2.1, C.2.2.2.1, C.2.2.2.2.1, min (k_c C + 1) 5, hPush (k_c C) (k_h C) (k_ah C), C.2.2.2.2.2.2.2)
abbrev cDone (mem : xM) (C' : cS) : xM → Prop := fun m => cAt m C' ∧ xS86 mem m
def pRot (p : Nat → Nat) : Nat → Nat := fun j => if j < 4 then p (j + 1) else p 0
theorem pRot_lo {p : Nat → Nat} {j : Nat} (h : j < 4) : pRot p j = p (j + 1) := if_pos h
theorem pRot_hi {p : Nat → Nat} {j : Nat} (h : ¬ j < 4) : pRot p j = p 0 := if_neg h
theorem c_keep {C : cS} (h : cAt mem C) (hc : k_c C ≤ 5) (hla : g_la01 (k_ah C)) : Pt G kX1_keep [.ref 37, .ref 10] mem none (cDone mem (cRec C)) := by
  obtain ⟨h0, h1, h2, h3, h4, ⟨p, h5⟩, h6, h7⟩ := h
  by_cases h5c : k_c C < 5
  · refine (c_keep_lo h5 h5c h2 (by decide) hla).pt ?_
    obtain ⟨e0, ⟨f, e1, hf⟩, e2, e3, e4⟩ := h5
    have hpc := e3 _ h5c
    have hgc := e2 _ h5c
    have hmin : min (k_c C + 1) 5 = k_c C + 1 := by omega
    refine ⟨⟨x_get_set (x_get_put hgc h0 (by omega)) (by decide), gAt_set (gAt_other hgc h1 (by omega) _) (by decide), gAt_set (gAt_other hgc h2 (by omega) _) (by decide), gAt_set (gAt_other hgc h3 (by omega) _) (by decide), gAt_set (gAt_other hgc h4 (by omega) _) (by decide), ⟨p, ?_, ⟨f, x_get_set (x_get_put hgc e1 (by omega)) (by decide), hf⟩, fun j hj => ?_, e3, e4⟩, x_get_set (x_get_put hgc h6 (by omega)) (by decide), x_get_set (x_get_put hgc h7 (by omega)) (by decide)⟩, xS86.tr (xS86.put hgc (by omega)) (xS86.set (by decide))⟩
    · show _ = some (h_o (nI (min (k_c C + 1) 5)))
      rw [hmin]
      exact x_get_same (x_get_put hgc e0 (by omega))
    · show gAt _ _ (hPush (k_c C) (k_h C) (k_ah C) j)
      rw [hPush, if_pos h5c]
      by_cases e : j = k_c C
      · subst e
        rw [if_pos rfl]
        exact gAt_set (gAt_put hgc _) (by omega)
      · rw [if_neg e]
        have := e3 j hj
        exact gAt_set (gAt_other hgc (e2 j hj) (e4 _ _ hj h5c e) _) (by omega)
  · have hc5 : k_c C = 5 := by omega
    rw [hc5] at h5
    obtain ⟨f, hf1, hf2, hd⟩ := c_keep_hi (G := G) h5 h2 (by decide) hla
    refine hd.pt ?_
    obtain ⟨e0, ⟨f0, e1, hf⟩, e2, e3, e4⟩ := h5
    have hp0 := e3 0 (by decide)
    have hg0 : gAt ((mem.set 38 (h_r f)).set 37 (h_o 4)) (p 0) (k_h C 0) := gAt_set (gAt_set (e2 0 (by decide)) (by omega)) (by omega)
    have ss : ∀ {i : Nat} {d : va_E}, mem[i]? = some d → i ≠ 37 → i ≠ 38 → (i < p 0 ∨ p 0 + 9 ≤ i) → ((gPut ((mem.set 38 (h_r f)).set 37 (h_o 4)) (p 0) (k_ah C)).set 37 (h_o 5))[i]? = some d := fun hd h1 h2 h3 => x_get_set (x_get_put hg0 (x_get_set (x_get_set hd (Ne.symm h2)) (Ne.symm h1)) h3) (Ne.symm h1)
    have gs : ∀ {g2 : Nat} {S2 : gS}, gAt mem g2 S2 → (37 < g2 ∨ g2 + 9 ≤ 37) → (38 < g2 ∨ g2 + 9 ≤ 38) → (g2 + 9 ≤ p 0 ∨ p 0 + 9 ≤ g2) → gAt ((gPut ((mem.set 38 (h_r f)).set 37 (h_o 4)) (p 0) (k_ah C)).set 37 (h_o 5)) g2 S2 := fun hd h1 h2 h3 => gAt_set (gAt_other hg0 (gAt_set (gAt_set hd (by omega)) (by omega)) h3 _) (by omega)
    refine ⟨⟨ss h0 (by decide) (by decide) (by omega), gs h1 (by decide) (by decide) (by omega), gs h2 (by decide) (by decide) (by omega), gs h3 (by decide) (by decide) (by omega), gs h4 (by decide) (by decide) (by omega), ⟨pRot p, ?_, ⟨f, ?_, fun j hj => ?_⟩, fun j hj => ?_, fun j hj => ?_, fun i j hi hj hij => ?_⟩, ss h6 (by decide) (by decide) (by omega), ss h7 (by decide) (by decide) (by omega)⟩, xS86.tr (xS86.tr (xS86.tr (xS86.set (by decide)) (xS86.set (by decide))) (xS86.put hg0 (by omega))) (xS86.set (by decide))⟩
    · show _ = some (h_o (nI (min (k_c C + 1) 5)))
      rw [hc5]
      exact x_get_same (x_get_put hg0 (x_get_same (x_get_set e0 (by decide))) (by omega))
    · exact x_get_set (x_get_put hg0 (x_get_set (x_get_same e1) (by decide)) (by omega)) (by decide)
    · by_cases h4j : j < 4
      · rw [pRot_lo h4j]; exact hf1 j h4j
      · rw [pRot_hi h4j, show j = 4 by omega]; exact hf2
    · show gAt _ _ (hPush (k_c C) (k_h C) (k_ah C) j)
      rw [hPush, if_neg h5c]
      by_cases h4j : j < 4
      · rw [if_pos h4j, pRot_lo h4j]
        have := e3 (j + 1) (by omega)
        exact gs (e2 (j + 1) (by omega)) (by omega) (by omega) (e4 _ _ (by omega) (by decide) (by omega))
      · rw [if_neg h4j, pRot_hi h4j]
        exact gAt_set (gAt_put hg0 _) (by omega)
    · by_cases h4j : j < 4
      · rw [pRot_lo h4j]; exact e3 _ (by omega)
      · rw [pRot_hi h4j]; exact hp0
    · by_cases h4i : i < 4
      · rw [pRot_lo h4i]
        by_cases h4j : j < 4
        · rw [pRot_lo h4j]; exact e4 _ _ (by omega) (by omega) (by omega)
        · rw [pRot_hi h4j]; exact e4 _ _ (by omega) (by decide) (by omega)
      · rw [pRot_hi h4i]
        by_cases h4j : j < 4
        · rw [pRot_lo h4j]; exact e4 _ _ (by decide) (by omega) (by omega)
        · exact absurd (show i = j by omega) hij
theorem c_rec_no {C : cS} (h : cAt mem C) (x : Int32) (hx : x.toInt < 0) : Dt G kX3_recordUnlessError [.ref 0, .int x] mem (some (.int x)) mem := by
  refine Ct_of (by decide) (Nat.le_of_ble_eq_true rfl) ?_
  refine E_iload_n dX3_recordUnlessError_0 (by rfl) ?_
  refine E_if_lt (tgt := 15) dX3_recordUnlessError_1 (by decide) (fun q1 => ?_) (fun q1 => ?_)
  · refine E_iload_n dX3_recordUnlessError_15 (by rfl) ?_
    refine E_iret dX3_recordUnlessError_16 rfl rfl (Nat.zero_le _) (Nat.zero_le _) ?_
    exact x_leaf rfl
  · exact absurd hx q1
theorem c_rec_ok {C : cS} (h : cAt mem C) (hc : k_c C ≤ 5) (hla : g_la01 (k_ah C)) (x : Int32) (hx : 0 ≤ x.toInt) : Pt G kX3_recordUnlessError [.ref 0, .int x] mem (some (.int x)) (cDone mem (cRec C)) := by
  obtain ⟨h0, h1, h2, h3, h4, ⟨p, h5⟩, h6, h7⟩ := id h
  have h50 := h5.1
  refine Ct_of (by decide) (Nat.le_of_ble_eq_true rfl) ?_
  refine E_iload_n dX3_recordUnlessError_0 (by rfl) ?_
  refine E_if_lt (tgt := 15) dX3_recordUnlessError_1 (by decide) (fun q1 => ?_) (fun q1 => ?_)
  · exact absurd q1 (by omega)
  · refine E_aload_n dX3_recordUnlessError_4 (by rfl) ?_
    refine gf_X3_28 dX3_recordUnlessError_5 rfl (by assumption) (by rfl) ?_
    refine E_aload_n dX3_recordUnlessError_8 (by rfl) ?_
    refine gf_X3_16 dX3_recordUnlessError_9 rfl (by assumption) (by rfl) ?_
    refine cp_X3_recordUnlessError_12 (by assumption) (Nat.le_of_ble_eq_true rfl) (c_keep h hc hla) (fun m12 h12 => ?_)
    refine E_iload_n dX3_recordUnlessError_15 (by rfl) ?_
    refine E_iret dX3_recordUnlessError_16 rfl rfl (Nat.zero_le _) (Nat.zero_le _) ?_
    exact ⟨rfl, h12⟩
end K1
