/-! class and reference: all their state -/
section IV
variable {G : xG} {mem m1 m2 : xM} {C C' : cS} {M M' : mS} {z z' f : Nat → Int32} {t n k m c i j a b : Nat} {v w u x y : Int32} {S T A : gS}
theorem Rl.congr (h : Rl S z t n k m) (e : ∀ i, i < 118 → z' i = z i) : Rl S z' t n k m := by
  have k6 := h.k6
  unfold Rl
  refine ⟨(e _ (by omega)).trans h.z0, h.gt, h.t10, h.t60, (e _ (by omega)).trans h.z1, h.gn, h.n6, (e _ (by omega)).trans h.z2, h.gm, h.mn, (e _ (by omega)).trans h.z3, h.k6, (e _ (by omega)).trans h.z4, (e _ (by omega)).trans h.z7, (e _ (by omega)).trans h.z5, (e _ (by omega)).trans h.z6, fun c hc => (e _ (by omega)).trans (h.pl c hc), fun c hc => (e _ (by omega)).trans (h.tp c hc), fun c hc => (e _ (by omega)).trans (h.rs c hc), fun c hc => (e _ (by omega)).trans (h.tl c hc), fun c hc => (e _ (by omega)).trans (h.lm c hc), fun c hc => (e _ (by omega)).trans (h.sl c hc), h.out, h.plt, h.rs01, ⟨fun j hj => ?_, fun i j hi hj hne => ?_, fun s hs hh => h.cp.2.2 s hs (fun j hj => ?_)⟩, fun s hs => (e _ (by omega)).trans (h.la s hs), fun s hs => ?_, fun s h1 hs => (e _ (by omega)).trans (h.lat s h1 hs)⟩
  · rw [e _ (by omega), e _ (by omega)]; exact h.cp.1 j hj
  · rw [e _ (by omega), e _ (by omega)]; exact h.cp.2.1 i j hi hj hne
  · have := hh j hj
    rw [e _ (by omega)] at this
    exact this
  · rw [e _ (by omega)]; exact h.la01 s hs
theorem OkE.congr (h : OkE S z b) (e : ∀ i, i < 118 → z' i = z i) : OkE S z' b := by
  obtain ⟨t, n, k, m, h1, h2, h3, h4⟩ := h
  exact ⟨t, n, k, m, h1.congr e, h2, h3, h4⟩
theorem Rl.g01 (h : Rl S z t n k m) : g_la01 S := fun i hi => by
  rw [← h.la i hi]
  exact h.la01 i (by omega)
theorem OkE.g01 (h : OkE S z b) : g_la01 S := by
  obtain ⟨t, n, k, m, h1, _⟩ := h
  exact h1.g01
def Inv (C : cS) (M : mS) (b : Nat) : Prop :=
  OkE (k_gm C) (m_z M) b ∧ k_c C ≤ 5 ∧ m_pm M = nI (k_c C) ∧ (∀ q, q < k_c C → OkE (k_h C q) (fOf (m_pa M) q) b) ∧ (k_hs C = 0 ∧ m_ik M = 0 ∨ k_hs C = 1 ∧ m_ik M = 1 ∧ OkE (k_sv C) (m_ke M) b) ∧ m_ty M = nI (k_n C) ∧ k_n C ≤ 60 ∧ m_bu M = k_f C ∧ tOk (k_f C) (k_n C)
theorem Inv.mono (h : Inv C M a) (hb : a ≤ b) : Inv C M b := by
  obtain ⟨h1, h2, h3, h4, h5, h6⟩ := h
  refine ⟨h1.mono hb, h2, h3, fun q hq => (h4 q hq).mono hb, ?_, h6⟩
  rcases h5 with h5 | ⟨e1, e2, e3⟩
  · exact Or.inl h5
  · exact Or.inr ⟨e1, e2, e3.mono hb⟩
theorem Inv_0 : Inv cS0 mS0 0 := by
  refine ⟨⟨30, 0, 0, 0, Rl_0, rfl, fun c hc => ⟨0, Nat.le_refl _, rfl⟩, rfl⟩, Nat.zero_le _, rfl, fun q hq => absurd hq (Nat.not_lt_zero _), Or.inl ⟨rfl, rfl⟩, rfl, Nat.zero_le _, rfl, fun i hi => absurd hi (Nat.not_lt_zero _)⟩
theorem fOf_lo {p : Nat → Int32} (c q : Nat) (hq : q < c) (z : Nat → Int32) : ∀ i, i < 118 → fOf (fBl p z c 118) q i = fOf p q i := fun i hi => by
  have e : (q + 1) * 118 ≤ c * 118 := Nat.mul_le_mul_right 118 hq
  rw [Nat.add_mul] at e
  exact if_neg (by omega)
theorem fOf_at {p : Nat → Int32} (c : Nat) (z : Nat → Int32) : ∀ i, i < 118 → fOf (fBl p z c 118) c i = z i := fun i hi => by
  show (if c * 118 ≤ c * 118 + i ∧ c * 118 + i < c * 118 + 118 then z (c * 118 + i - c * 118) else p (c * 118 + i)) = z i
  rw [if_pos (by omega), show c * 118 + i - c * 118 = i by omega]
/-- what is recorded -/
theorem Inv.rec (h : Inv C M a) (hab : a ≤ b) (hT : OkE T z' b) : Inv (cRec (T, C.1, C.2.2)) (m_wz (mRec M (k_c C)) z') b := by
  obtain ⟨h1, h2, h3, h4, h5, h6⟩ := h
  refine ⟨hT, by show min (k_c C + 1) 5 ≤ 5; omega, rfl, fun q hq => ?_, ?_, h6⟩
  · have hq : q < min (k_c C + 1) 5 := hq
    show OkE (hPush (k_c C) (k_h C) (k_gm C) q) (fOf (mRp M (k_c C)) q) b
    unfold hPush mRp
    by_cases c5 : k_c C = 5
    · rw [c5, if_neg (by omega), if_pos rfl]
      by_cases q4 : q < 4
      · show OkE (if q < 4 then k_h C (q + 1) else k_gm C) _ b
        rw [if_pos q4]
        refine ((h4 (q + 1) (by omega)).mono hab).congr (fun i hi => ?_)
        rw [fOf_lo 4 q q4 _ i hi]
        show (if q * 118 + i < 472 then m_pa M (q * 118 + i + 118) else m_pa M (q * 118 + i)) = m_pa M ((q + 1) * 118 + i)
        rw [if_pos (by omega), show q * 118 + i + 118 = (q + 1) * 118 + i by omega]
      · have e4 : q = 4 := by omega
        subst e4
        show OkE (k_gm C) _ b
        exact (h1.mono hab).congr (fun i hi => fOf_at 4 _ i hi)
    · rw [if_pos (by omega), if_neg c5]
      by_cases eq : q = k_c C
      · subst eq
        show OkE (if k_c C = k_c C then k_gm C else k_h C (k_c C)) _ b
        rw [if_pos rfl]
        exact (h1.mono hab).congr (fun i hi => fOf_at _ _ i hi)
      · show OkE (if q = k_c C then k_gm C else k_h C q) _ b
        rw [if_neg eq]
        exact ((h4 q (by omega)).mono hab).congr (fun i hi => fOf_lo _ q (by omega) _ i hi)
  · rcases h5 with h5 | ⟨e1, e2, e3⟩
    · exact Or.inl h5
    · exact Or.inr ⟨e1, e2, e3.mono hab⟩
theorem mAt_86 (h : mAt mem M) (hx : xS86 mem m1) : mAt m1 M := by
  obtain ⟨a0, a1, a2, a3, a4, a5, a6, a7⟩ := h
  exact ⟨(hx _ (by decide)).trans a0, (hx _ (by decide)).trans a1, (hx _ (by decide)).trans a2, (hx _ (by decide)).trans a3, (hx _ (by decide)).trans a4, (hx _ (by decide)).trans a5, (hx _ (by decide)).trans a6, (hx _ (by decide)).trans a7⟩
theorem gAt_lo {g : Nat} (h : gAt mem g S) (hg : g + 9 ≤ 86) (e : ∀ i, i < 86 → m1[i]? = mem[i]?) : gAt m1 g S := by
  obtain ⟨a0, a1, a2, a3, a4, a5, a6, a7, a8⟩ := h
  exact ⟨(e _ (by omega)).trans a0, (e _ (by omega)).trans a1, (e _ (by omega)).trans a2, (e _ (by omega)).trans a3, (e _ (by omega)).trans a4, (e _ (by omega)).trans a5, (e _ (by omega)).trans a6, (e _ (by omega)).trans a7, (e _ (by omega)).trans a8⟩
theorem cAt_lo (h : cAt mem C) (e : ∀ i, i < 86 → m1[i]? = mem[i]?) : cAt m1 C := by
  obtain ⟨h0, h1, h2, h3, h4, ⟨p, g0, ⟨f, g1, hf⟩, g2, g3, g4⟩, h6, h7⟩ := h
  exact ⟨(e _ (by decide)).trans h0, gAt_lo h1 (by decide) e, gAt_lo h2 (by decide) e, gAt_lo h3 (by decide) e, gAt_lo h4 (by decide) e, ⟨p, (e _ (by decide)).trans g0, ⟨f, (e _ (by decide)).trans g1, hf⟩, fun j hj => gAt_lo (g2 j hj) (by have := g3 j hj; omega) e, g3, g4⟩, (e _ (by decide)).trans h6, (e _ (by decide)).trans h7⟩
theorem cAt_mPut (h : cAt mem C) (hm : mAt mem M) (M' : mS) : cAt (mPut mem M') C := cAt_lo h (fun i hi => mPut_lo hm M' hi)
/-- class and reference lie in the memory, in step -/
def StE (b : Nat) (mem : xM) : Prop := ∃ C M, cAt mem C ∧ mAt mem M ∧ Inv C M b
/-- one call of the class and one of the reference: they answer the same and stay in step -/
def Two (G : xG) (kx : xI) (ax : List Value) (km : xI) (am : List Value) (mem : xM) (b : Nat) : Prop := ∃ r : Int32, Pt G kx ax mem (some (.int r)) (fun m1 => (∃ M, mAt m1 M) ∧ Pt G km am m1 (some (.int r)) (StE b))
theorem two_of {kx km : xI} {ax am : List Value} {r : Int32} (hm : mAt mem M) (h1 : Pt G kx ax mem (some (.int r)) (cDone mem C')) (h2 : ∀ m1, cAt m1 C' → mAt m1 M → Dt G km am m1 (some (.int r)) (mPut m1 M')) (hi : Inv C' M' b) : Two G kx ax km am mem b := ⟨r, h1.imp (fun m1 hm1 => ⟨⟨M, mAt_86 hm hm1.2⟩, (h2 m1 hm1.1 (mAt_86 hm hm1.2)).pt ⟨C', M', cAt_mPut hm1.1 (mAt_86 hm hm1.2) M', mAt_put (mAt_86 hm hm1.2) M', hi⟩⟩)⟩
theorem two_of0 {kx km : xI} {ax am : List Value} {r : Int32} (hm : mAt mem M) (h1 : Pt G kx ax mem (some (.int r)) (cDone mem C')) (h2 : ∀ m1, cAt m1 C' → mAt m1 M → Dt G km am m1 (some (.int r)) m1) (hi : Inv C' M b) : Two G kx ax km am mem b := ⟨r, h1.imp (fun m1 hm1 => ⟨⟨M, mAt_86 hm hm1.2⟩, (h2 m1 hm1.1 (mAt_86 hm hm1.2)).pt ⟨C', M, hm1.1, mAt_86 hm hm1.2, hi⟩⟩)⟩
theorem Dt.dn {kx : xI} {ax : List Value} {v : Option Value} (h : Dt G kx ax mem v mem) (hc : cAt mem C) : Pt G kx ax mem v (cDone mem C) := h.pt ⟨hc, xS86.rf⟩
theorem Inv.ah (h : Inv C M b) : Inv (cAh C) M b := h
end IV
