/-! class and reference: the best roll -/
section RG
variable {z f : Nat → Int32} {t n k m c i j a b : Nat} {v w u : Int32} {S T : gS}
/-- nobody has more than b tops -/
def Tb (S : gS) (b : Nat) : Prop := ∀ c, c < 6 → ∃ q, q ≤ b ∧ g_tp S c = nI q
theorem Tb.mono (h : Tb S a) (hb : a ≤ b) : Tb S b := fun c hc => by
  obtain ⟨q, h1, h2⟩ := h c hc
  exact ⟨q, by omega, h2⟩
theorem Tb.of (h : Tb S b) (e : g_tp T = g_tp S) : Tb T b := fun c hc => by
  rw [e]
  exact h c hc
theorem gVa_01 (top x : Int32) : gVa top x = 0 ∨ gVa top x = 1 := by
  unfold gVa
  split
  · exact Or.inl rfl
  · exact Or.inr rfl
theorem gLs_tp {p : Nat → Prop} [DecidablePred p] : ∀ i c, (i ≤ c ∨ ¬ p c → g_tp (gLs T m p i) c = g_tp T c) ∧ (g_tp (gLs T m p i) c = g_tp T c ∨ g_tp (gLs T m p i) c = g_tp T c + 1)
  | 0, c => ⟨fun _ => rfl, Or.inl rfl⟩
  | i + 1, c => by
    obtain ⟨h1, h2⟩ := gLs_tp (p := p) i c
    rw [gLs]
    by_cases e : p i
    · rw [if_pos e, gLf_nf]
      show (i + 1 ≤ c ∨ ¬ p c → upd (g_tp (gLs T m p i)) i (g_tp (gLs T m p i) i + gVa (g_top (gLs T m p i)) (g_pl (gLs T m p i) i + 1)) c = g_tp T c) ∧ (upd (g_tp (gLs T m p i)) i (g_tp (gLs T m p i) i + gVa (g_top (gLs T m p i)) (g_pl (gLs T m p i) i + 1)) c = g_tp T c ∨ upd (g_tp (gLs T m p i)) i (g_tp (gLs T m p i) i + gVa (g_top (gLs T m p i)) (g_pl (gLs T m p i) i + 1)) c = g_tp T c + 1)
      by_cases ec : c = i
      · subst ec
        refine ⟨fun q => q.elim (fun q => absurd q (by omega)) (fun q => absurd e q), ?_⟩
        rw [upd_same, h1 (Or.inl (Nat.le_refl _))]
        rcases gVa_01 (g_top (gLs T m p c)) (g_pl (gLs T m p c) c + 1) with q | q
        · rw [q, Int32.add_zero]; exact Or.inl rfl
        · rw [q]; exact Or.inr rfl
      · rw [upd_ne ec]
        exact ⟨fun q => h1 (q.elim (fun q => Or.inl (by omega)) Or.inr), h2⟩
    · rw [if_neg e]
      refine ⟨fun q => h1 ?_, h2⟩
      rcases q with q | q
      · exact Or.inl (by omega)
      · exact Or.inr q
theorem Rl.tb (h : Rl S z t n k m) (hm : m < n) (hb : Tb S b) : Tb (gRoll S u n) (b + 1) := by
  have n6 := h.n6
  have em : (g_mv S).toNatClampNeg = m := by rw [h.gm]; exact nI_clamp (by omega)
  have g1 := gLiftTo_gLs (T := gRo S) (u := u) (m := m) h.gm (by omega) n
  have e1 : g_tp (gRoll S u n) = g_tp (gRoll1 S u n) := (gNext_fix (gRoll2 S u n)).2.2.2.1
  have hne : ¬ g_psd (gRo S) m u := fun q => by
    have q1 := q.1
    have : (g_pl S (g_mv S).toNatClampNeg).toInt < (g_pl S m).toInt := q1
    rw [em] at this
    omega
  have e2 : g_tp (gRoll1 S u n) = g_tp (gCome (gLiftTo (gRo S) u n) m (g_pl S m + u)) := by
    show g_tp (gCome (gLiftTo (gRo S) u n) (g_mv S).toNatClampNeg (g_pl S (g_mv S).toNatClampNeg + u)) = _
    rw [em]
  intro c hc
  rw [e1, e2, gCome_nf, g1.1]
  show ∃ q, q ≤ b + 1 ∧ upd (g_tp (gLs (gRo S) m (fun c => g_psd (gRo S) c u) n)) m (g_tp (gLs (gRo S) m (fun c => g_psd (gRo S) c u) n) m + gVa (g_top (gLs (gRo S) m (fun c => g_psd (gRo S) c u) n)) (g_pl S m + u)) c = nI q
  obtain ⟨l1, l2⟩ := gLs_tp (T := gRo S) (m := m) (p := fun c => g_psd (gRo S) c u) n c
  obtain ⟨q, q1, q2⟩ := hb c hc
  have q2' : g_tp (gRo S) c = nI q := q2
  by_cases ec : c = m
  · subst ec
    rw [upd_same, l1 (Or.inr hne), q2']
    rcases gVa_01 (g_top (gLs (gRo S) c (fun c => g_psd (gRo S) c u) n)) (g_pl S c + u) with r | r
    · rw [r, Int32.add_zero]; exact ⟨q, by omega, rfl⟩
    · rw [r, nI_1]; exact ⟨q + 1, by omega, rfl⟩
  · rw [upd_ne ec]
    rcases l2 with r | r
    · rw [r, q2']; exact ⟨q, by omega, rfl⟩
    · rw [r, q2', nI_1]; exact ⟨q + 1, by omega, rfl⟩
theorem Rl.prn (h : Rl S z t n k m) (hb : Tb S b) (hB : b ≤ 16000) (hc : c < n) : ∃ P : Nat, P ≤ 1000000 ∧ mPr z c = nI P := by
  have n6 := h.n6
  have t60 := h.t60
  obtain ⟨p, p1, p2⟩ := h.plt c (by omega)
  obtain ⟨q, q1, q2⟩ := hb c (by omega)
  refine ⟨q * t + p, ?_, ?_⟩
  · have : q * t ≤ 16000 * 60 := Nat.mul_le_mul (by omega) t60
    omega
  · unfold mPr
    rw [h.tp c (by omega), h.pl c (by omega), h.z0, q2, p2]
    have e1 : nI q * nI t = nI (q * t) := (Int32.ofNat_mul q t).symm
    rw [e1, nI_add]
def iSm (g : Nat → Int) : Nat → Int
  | 0 => 0
  | c + 1 => iSm g c + g c
theorem iSm_alt (P Q : Nat → Int) (m : Nat) : ∀ c, iSm (fun c => if c = m then Q c - P c else -(Q c - P c)) c = iSm P c - iSm Q c + (if m < c then 2 * (Q m - P m) else 0)
  | 0 => by simp [iSm]
  | c + 1 => by
    have ih := iSm_alt P Q m c
    simp only [iSm] at ih ⊢
    rw [ih]
    by_cases e : c = m
    · subst e
      rw [if_pos rfl, if_neg (by omega), if_pos (by omega)]
      omega
    · rw [if_neg e]
      by_cases e2 : m < c
      · rw [if_pos e2, if_pos (by omega)]; omega
      · rw [if_neg e2, if_neg (by omega)]; omega
theorem iSm_bd (g : Nat → Int) (hg : ∀ c, c < n → 0 ≤ g c ∧ g c ≤ 1000000) : ∀ c, c ≤ n → 0 ≤ iSm g c ∧ iSm g c ≤ 1000000 * c
  | 0, _ => by simp [iSm]
  | c + 1, h => by
    have ih := iSm_bd g hg c (by omega)
    have := hg c (by omega)
    simp only [iSm]
    omega
theorem mWs_toInt {g : Nat → Int32} {G : Nat → Int} {A : Int} {x : Int32} (hn : n ≤ 6) (hx : x.toInt = A) (hA : 0 ≤ A ∧ A ≤ 2000000) (hg : ∀ c, c < n → (g c).toInt = G c ∧ 0 ≤ G c ∧ G c ≤ 1000000) : ∀ c, c ≤ n → (mWs g x c).toInt = A - iSm G c
  | 0, _ => by rw [mWs, iSm, hx]; omega
  | c + 1, h => by
    have ih := mWs_toInt hn hx hA hg c (by omega)
    have b1 := iSm_bd (n := n) G (fun c hc => (hg c hc).2) c (by omega)
    obtain ⟨g1, g2, g3⟩ := hg c (by omega)
    rw [mWs, iSm, i_sub (by rw [ih, g1]; omega) (by rw [ih, g1]; omega), ih, g1]
    omega
theorem sGn_toInt {R : gS} {P Q : Nat → Int} (hn : n ≤ 6) (hm : (g_mv S).toInt = (m : Int)) (hS : ∀ c, c < n → (gPr S (nI c)).toInt = P c ∧ 0 ≤ P c ∧ P c ≤ 1000000) (hR : ∀ c, c < n → (gPr R (nI c)).toInt = Q c ∧ 0 ≤ Q c ∧ Q c ≤ 1000000) : ∀ c, c ≤ n → (sGn S R c).toInt = iSm (fun c => if c = m then Q c - P c else -(Q c - P c)) c ∧ -(1000000 * (c : Int)) ≤ (sGn S R c).toInt ∧ (sGn S R c).toInt ≤ 1000000 * c
  | 0, _ => by rw [sGn, iSm]; decide
  | c + 1, h => by
    obtain ⟨ih, b1, b2⟩ := sGn_toInt hn hm hS hR c (by omega)
    obtain ⟨p1, p2, p3⟩ := hS c (by omega)
    obtain ⟨q1, q2, q3⟩ := hR c (by omega)
    have d : (gPr R (nI c) - gPr S (nI c)).toInt = Q c - P c := by
      rw [i_sub (by omega) (by omega), p1, q1]
    have dn : (-(gPr R (nI c) - gPr S (nI c))).toInt = -(Q c - P c) := by
      have e : -(gPr R (nI c) - gPr S (nI c)) = gPr S (nI c) - gPr R (nI c) := Int32.neg_sub
      rw [e, i_sub (by omega) (by omega), p1, q1]
      omega
    rw [sGn, iSm, hm, nI_toInt (by omega)]
    by_cases e : c = m
    · subst e
      rw [if_pos rfl, if_pos rfl, i_add (by omega) (by omega), d, ← ih]
      omega
    · rw [if_neg (by omega), if_neg e, i_add (by omega) (by omega), dn, ← ih]
      omega
theorem best_eq {x y : Nat → Int32} {W : Int} (h : ∀ i, 1 ≤ i → i ≤ 6 → (x i).toInt = (y i).toInt - W) : ∀ k, k ≤ 5 → (sBe x k).1 = (mBe y (k + 1)).1 ∧ (sBe x k).1.toInt ≠ -6 ∧ (sBe x k).2.toInt = (mBe y (k + 1)).2.toInt - W
  | 0, _ => by
    have e0 : (mBe y 0).1.toInt = -6 := show (-6 : Int32).toInt = -6 by decide
    rw [mBe, if_pos (Or.inl e0), sBe]
    exact ⟨rfl, show ¬ (1 : Int32).toInt = -6 by decide, h 1 (by omega) (by omega)⟩
  | k + 1, hk => by
    obtain ⟨h1, h2, h3⟩ := best_eq h k (by omega)
    have hx := h (k + 2) (by omega) (by omega)
    rw [mBe, sBe]
    by_cases e : (sBe x k).2.toInt < (x (k + 2)).toInt
    · rw [if_pos e, if_pos (Or.inr (by show (mBe y (k + 1)).2.toInt < (y (k + 2)).toInt; omega))]
      exact ⟨rfl, fun q => nI_ne6 (by omega) (Int32.toInt_inj.mp (q.trans (by decide))), hx⟩
    · rw [if_neg e, if_neg (fun q => q.elim (fun q => h2 (by rw [h1]; exact q)) (fun q => e (by have q' : (mBe y (k + 1)).2.toInt < (y (k + 2)).toInt := q; omega)))]
      exact ⟨h1, h2, h3⟩
theorem Rl.best (h : Rl S z t n k m) (hm : m < n) (hr : g_rs S m = 0) (hb : Tb S b) (hB : b < 16000) : (sBe (fun i => sGn S (gRoll S (nI i) n) n) 5).1 = (mBe (fun i => mWo (mRoll z n k m (nI i)) n m) 6).1 := by
  have n6 := h.n6
  have emv : (g_mv S).toInt = (m : Int) := by rw [h.gm]; exact nI_toInt (by omega)
  obtain ⟨P, hP⟩ : ∃ P : Nat → Int, ∀ c, c < n → (mPr z c).toInt = P c ∧ 0 ≤ P c ∧ P c ≤ 1000000 := ⟨fun c => (mPr z c).toInt, fun c hc => by
    obtain ⟨q, q1, q2⟩ := h.prn hb (by omega) hc
    have e : (mPr z c).toInt = (q : Int) := by rw [q2, nI_toInt (by omega)]
    exact ⟨rfl, by show 0 ≤ (mPr z c).toInt; omega, by show (mPr z c).toInt ≤ 1000000; omega⟩⟩
  refine (best_eq (W := 2 * P m - iSm P n) (fun i h1 h2 => ?_) 5 (Nat.le_refl _)).1
  obtain ⟨-, r2, -, -⟩ := h.roll hm hr ⟨h1, h2⟩
  have rb := h.tb (u := nI i) hm hb
  obtain ⟨Q, hQ⟩ : ∃ Q : Nat → Int, ∀ c, c < n → (mPr (mRoll z n k m (nI i)) c).toInt = Q c ∧ 0 ≤ Q c ∧ Q c ≤ 1000000 := ⟨fun c => (mPr (mRoll z n k m (nI i)) c).toInt, fun c hc => by
    obtain ⟨q, q1, q2⟩ := r2.prn rb (by omega) hc
    have e : (mPr (mRoll z n k m (nI i)) c).toInt = (q : Int) := by rw [q2, nI_toInt (by omega)]
    exact ⟨rfl, by show 0 ≤ (mPr (mRoll z n k m (nI i)) c).toInt; omega, by show (mPr (mRoll z n k m (nI i)) c).toInt ≤ 1000000; omega⟩⟩
  have g1 := (sGn_toInt (S := S) (R := gRoll S (nI i) n) (P := P) (Q := Q) n6 emv (fun c hc => by rw [h.pr c hc]; exact hP c hc) (fun c hc => by rw [r2.pr c hc]; exact hQ c hc) n (Nat.le_refl _)).1
  have hQm := hQ m hm
  have e2 : (2 * mPr (mRoll z n k m (nI i)) m).toInt = 2 * Q m := by
    rw [i_mul (by rw [hQm.1, show (2 : Int32).toInt = 2 by decide]; omega) (by rw [hQm.1, show (2 : Int32).toInt = 2 by decide]; omega), hQm.1, show (2 : Int32).toInt = 2 by decide]
  have g2 := mWs_toInt (g := mPr (mRoll z n k m (nI i))) (G := Q) (A := 2 * Q m) n6 e2 (by omega) hQ n (Nat.le_refl _)
  have g3 := iSm_alt P Q m n
  rw [if_pos hm] at g3
  show (sGn S (gRoll S (nI i) n) n).toInt = (mWs (mPr (mRoll z n k m (nI i))) (2 * mPr (mRoll z n k m (nI i)) m) n).toInt - _
  rw [g1, g2, g3]
  omega
end RG
