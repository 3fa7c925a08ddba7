/-! the fewest rolls: the reference's rows -/
section RI
variable {z f f' f'' : Nat → Int32} {t n k m c i j a b p e s : Nat} {v w u : Int32} {S T : gS} {d : Nat → Nat}
/-- where nothing stood and X holds, e is written -/
def Fl (t e : Nat) (X : Nat → Prop) (f f' : Nat → Int32) : Prop := ∀ x, x < t → ((f x).toInt = -6 ∧ X x ∧ f' x = nI e) ∨ (¬ ((f x).toInt = -6 ∧ X x) ∧ f' x = f x)
theorem nI_t6 (he : e < 2147483648) : ¬ (nI e).toInt = -6 := fun h => nI_ne6 he (Int32.toInt_inj.mp (h.trans (by decide)))
theorem Fl.rf {X : Nat → Prop} (h : ∀ x, x < t → ¬ X x) : Fl t e X f f := fun x hx => Or.inr ⟨fun q => h x hx q.2, rfl⟩
theorem Fl.imp {X Y : Nat → Prop} (h : Fl t e X f f') (hi : ∀ x, x < t → (X x ↔ Y x)) : Fl t e Y f f' := fun x hx => by
  rcases h x hx with ⟨h1, h2, h3⟩ | ⟨h1, h2⟩
  · exact Or.inl ⟨h1, (hi x hx).mp h2, h3⟩
  · exact Or.inr ⟨fun q => h1 ⟨q.1, (hi x hx).mpr q.2⟩, h2⟩
theorem Fl.tr {X Y : Nat → Prop} (he : e < 2147483648) (h : Fl t e X f f') (h' : Fl t e Y f' f'') : Fl t e (fun x => X x ∨ Y x) f f'' := fun x hx => by
  rcases h x hx with ⟨h1, h2, h3⟩ | ⟨h1, h2⟩
  · refine Or.inl ⟨h1, Or.inl h2, ?_⟩
    rcases h' x hx with ⟨g1, _⟩ | ⟨_, g2⟩
    · rw [h3] at g1; exact absurd g1 (nI_t6 he)
    · rw [g2, h3]
  · rcases h' x hx with ⟨g1, g2, g3⟩ | ⟨g1, g2⟩
    · exact Or.inl ⟨by rw [← h2]; exact g1, Or.inr g2, g3⟩
    · refine Or.inr ⟨fun q => ?_, g2.trans h2⟩
      rcases q.2 with q2 | q2
      · exact h1 ⟨q.1, q2⟩
      · exact g1 ⟨by rw [h2]; exact q.1, q2⟩
theorem Fl.one (y : Nat) : Fl t e (fun x => x = y) f (mI0 e f y) := fun x hx => by
  unfold mI0
  by_cases ex : x = y
  · subst ex
    rw [upd_same]
    by_cases e6 : (f x).toInt = -6
    · rw [if_pos e6]; exact Or.inl ⟨e6, rfl, rfl⟩
    · rw [if_neg e6]; exact Or.inr ⟨fun q => e6 q.1, rfl⟩
  · rw [upd_ne ex]
    exact Or.inr ⟨fun q => ex q.2, rfl⟩
def Dz (z : Nat → Int32) (k t : Nat) (d : Nat → Nat) : Prop := (∀ y, y < t → mDs z k y = nI (d y) ∧ d y < t) ∧ ∀ y, t ≤ y → y < 200 → mDs z k y = nI y
theorem Fl_mI1 (hz : Dz z k t d) (ht : t ≤ 60) (hs : s < t) (he : e < 2147483648) : ∀ u, u ≤ 6 → Fl t e (fun x => ∃ y, s < y ∧ y ≤ s + u ∧ y < t ∧ d y = x) f (mI1 z k e s u f)
  | 0, _ => Fl.rf (fun x _ ⟨y, h1, h2, _⟩ => absurd h1 (by omega))
  | u + 1, hu => by
    have ih := Fl_mI1 hz ht hs he u (by omega)
    show Fl t e _ f (mI0 e (mI1 z k e s u f) (mDs z k (s + u + 1)).toNatClampNeg)
    by_cases ey : s + u + 1 < t
    · obtain ⟨d1, d2⟩ := hz.1 _ ey
      rw [d1, nI_clamp (by omega)]
      refine (Fl.tr he ih (Fl.one (d (s + u + 1)))).imp (fun x hx => ?_)
      constructor
      · rintro (⟨y, h1, h2, h3, h4⟩ | h)
        · exact ⟨y, h1, by omega, h3, h4⟩
        · exact ⟨s + u + 1, by omega, by omega, ey, h.symm⟩
      · rintro ⟨y, h1, h2, h3, h4⟩
        by_cases eq : y = s + u + 1
        · subst eq; exact Or.inr h4.symm
        · exact Or.inl ⟨y, h1, by omega, h3, h4⟩
    · rw [hz.2 _ (by omega) (by omega), nI_clamp (by omega)]
      refine (Fl.tr he ih (Fl.one (s + u + 1))).imp (fun x hx => ?_)
      constructor
      · rintro (⟨y, h1, h2, h3, h4⟩ | h)
        · exact ⟨y, h1, by omega, h3, h4⟩
        · omega
      · rintro ⟨y, h1, h2, h3, h4⟩
        exact Or.inl ⟨y, h1, by omega, h3, h4⟩
theorem Fl_mIc {X : Nat → Prop} (he : e < 2147483648) (h : Fl t e X f f') (hs : s < t) : mIc f' e s ↔ mIc f e s := by
  show (f' s).toInt + 1 = e ↔ (f s).toInt + 1 = e
  rcases h s hs with ⟨h1, h2, h3⟩ | ⟨h1, h2⟩
  · rw [h3, nI_toInt (by omega)]
    omega
  · rw [h2]
theorem Fl_mI2 (hz : Dz z k t d) (ht : t ≤ 60) (he : e < 2147483648) : ∀ s, s ≤ t → Fl t e (fun x => ∃ s', s' < s ∧ (f s').toInt + 1 = e ∧ ∃ y, s' < y ∧ y ≤ s' + 6 ∧ y < t ∧ d y = x) f (mI2 z k e s f)
  | 0, _ => Fl.rf (fun x _ ⟨s', h1, _⟩ => absurd h1 (by omega))
  | s + 1, hs => by
    have ih := Fl_mI2 hz ht he s (by omega)
    have hc := Fl_mIc he ih (s := s) (by omega)
    show Fl t e _ f (mSt z k e s (mI2 z k e s f))
    unfold mSt
    by_cases ec : mIc (mI2 z k e s f) e s
    · rw [if_pos ec]
      have ec' : (f s).toInt + 1 = e := hc.mp ec
      refine (Fl.tr he ih (Fl_mI1 (f := mI2 z k e s f) hz ht (s := s) (by omega) he 6 (Nat.le_refl _))).imp (fun x hx => ?_)
      constructor
      · rintro (⟨s', h1, h2⟩ | h)
        · exact ⟨s', by omega, h2⟩
        · exact ⟨s, by omega, ec', h⟩
      · rintro ⟨s', h1, h2, h3⟩
        by_cases es : s' = s
        · subst es; exact Or.inr h3
        · exact Or.inl ⟨s', by omega, h2, h3⟩
    · rw [if_neg ec]
      refine ih.imp (fun x hx => ?_)
      constructor
      · rintro ⟨s', h1, h2⟩
        exact ⟨s', by omega, h2⟩
      · rintro ⟨s', h1, h2, h3⟩
        by_cases es : s' = s
        · subst es; exact absurd (hc.mpr h2) ec
        · exact ⟨s', by omega, h2, h3⟩
/-- what stands in the row behind c rounds -/
theorem row_at (hz : Dz z k t d) (ht : t ≤ 60) : ∀ c, c ≤ 100 → ∀ x, x < t → (Re d t p c x ∧ ∃ e, e ≤ c ∧ Re d t p e x ∧ (∀ e', e' < e → ¬ Re d t p e' x) ∧ mI3 z k t (mRi p) c x = nI e) ∨ (¬ Re d t p c x ∧ mI3 z k t (mRi p) c x = -6)
  | 0, _, x, hx => by
    show (Re d t p 0 x ∧ ∃ e, e ≤ 0 ∧ Re d t p e x ∧ (∀ e', e' < e → ¬ Re d t p e' x) ∧ upd (fun _ => -6) p 0 x = nI e) ∨ (¬ Re d t p 0 x ∧ upd (fun _ => (-6 : Int32)) p 0 x = -6)
    by_cases ex : x = p
    · subst ex
      exact Or.inl ⟨rfl, 0, Nat.le_refl _, rfl, fun e' h => absurd h (by omega), upd_same⟩
    · exact Or.inr ⟨ex, upd_ne ex⟩
  | c + 1, hc, x, hx => by
    have ih := row_at hz ht c (by omega)
    have hF := Fl_mI2 (f := mI3 z k t (mRi p) c) hz ht (e := c + 1) (by omega) t (Nat.le_refl _) x hx
    have eX : (∃ s', s' < t ∧ (mI3 z k t (mRi p) c s').toInt + 1 = ((c + 1 : Nat) : Int) ∧ ∃ y, s' < y ∧ y ≤ s' + 6 ∧ y < t ∧ d y = x) → Re d t p (c + 1) x := by
      rintro ⟨s', h1, h2, h3⟩
      rcases ih s' h1 with ⟨g1, _⟩ | ⟨_, g2⟩
      · exact Or.inr ⟨s', h1, g1, h3⟩
      · rw [g2, show (-6 : Int32).toInt = -6 by decide] at h2
        omega
    have eX2 : ¬ Re d t p c x → Re d t p (c + 1) x → ∃ s', s' < t ∧ (mI3 z k t (mRi p) c s').toInt + 1 = ((c + 1 : Nat) : Int) ∧ ∃ y, s' < y ∧ y ≤ s' + 6 ∧ y < t ∧ d y = x := by
      intro hn hr
      rcases hr with hr | ⟨s', h1, h2, h3⟩
      · exact absurd hr hn
      · rcases ih s' h1 with ⟨_, e, g1, g2, g3, g4⟩ | ⟨g1, _⟩
        · refine ⟨s', h1, ?_, h3⟩
          by_cases ee : e = c
          · subst ee
            rw [g4, nI_toInt (by omega)]
            omega
          · exact absurd (Re_mono (a := e + 1) (b := c) (by omega) (Or.inr ⟨s', h1, g2, h3⟩)) hn
        · exact absurd h2 g1
    show (Re d t p (c + 1) x ∧ ∃ e, e ≤ c + 1 ∧ Re d t p e x ∧ (∀ e', e' < e → ¬ Re d t p e' x) ∧ mI2 z k (c + 1) t (mI3 z k t (mRi p) c) x = nI e) ∨ (¬ Re d t p (c + 1) x ∧ mI2 z k (c + 1) t (mI3 z k t (mRi p) c) x = -6)
    rcases ih x hx with ⟨g1, e, g2, g3, g4, g5⟩ | ⟨g1, g2⟩
    · rcases hF with ⟨q1, _⟩ | ⟨_, q2⟩
      · rw [g5] at q1
        exact absurd q1 (nI_t6 (by omega))
      · exact Or.inl ⟨Or.inl g1, e, by omega, g3, g4, q2.trans g5⟩
    · rcases hF with ⟨q1, q2, q3⟩ | ⟨q1, q2⟩
      · exact Or.inl ⟨eX q2, c + 1, Nat.le_refl _, eX q2, fun e' he' hr => g1 (Re_mono (by omega) hr), q3⟩
      · refine Or.inr ⟨fun hr => q1 ⟨by rw [g2]; decide, eX2 g1 hr⟩, q2.trans g2⟩
theorem row_n6 (hz : Dz z k t d) (ht : t ≤ 60) (hc : c ≤ 100) {x : Nat} (hx : x < t) : (mI3 z k t (mRi p) c x).toInt ≠ -6 ↔ Re d t p c x := by
  rcases row_at (p := p) hz ht c hc x hx with ⟨g1, e, g2, g3, g4, g5⟩ | ⟨g1, g2⟩
  · rw [g5]
    exact ⟨fun _ => g1, fun _ => nI_t6 (by omega)⟩
  · rw [g2]
    exact ⟨fun q => absurd (by decide) q, fun q => absurd q g1⟩
theorem hit_mHi (hz : Dz z k t d) (ht : t ≤ 60) (hc : c ≤ 99) : mHi z k t (mRi p) (c + 1) → Hit d t p c := by
  rintro ⟨s, h1, h2, h3⟩
  have h3' : mIc (mI3 z k t (mRi p) c) (c + 1) s := (Fl_mIc (by omega) (Fl_mI2 (f := mI3 z k t (mRi p) c) hz ht (e := c + 1) (by omega) s (by omega)) (s := s) h1).mp h3
  have h4 : (mI3 z k t (mRi p) c s).toInt + 1 = ((c + 1 : Nat) : Int) := h3'
  rcases row_at (p := p) hz ht c (by omega) s h1 with ⟨g1, _⟩ | ⟨_, g2⟩
  · exact ⟨s, h1, h2, g1⟩
  · rw [g2, show (-6 : Int32).toInt = -6 by decide] at h4
    omega
theorem mHi_hit (hz : Dz z k t d) (ht : t ≤ 60) (hc : c ≤ 99) (hn : ∀ e, e < c → ¬ Hit d t p e) (h : Hit d t p c) : mHi z k t (mRi p) (c + 1) := by
  obtain ⟨s, h1, h2, h3⟩ := h
  refine ⟨s, h1, h2, (Fl_mIc (by omega) (Fl_mI2 (f := mI3 z k t (mRi p) c) hz ht (e := c + 1) (by omega) s (by omega)) (s := s) h1).mpr ?_⟩
  show (mI3 z k t (mRi p) c s).toInt + 1 = ((c + 1 : Nat) : Int)
  rcases row_at (p := p) hz ht c (by omega) s h1 with ⟨g1, e, g2, g3, g4, g5⟩ | ⟨g1, g2⟩
  · by_cases ee : e = c
    · subst ee
      rw [g5, nI_toInt (by omega)]
      omega
    · exact absurd ⟨s, h1, h2, g3⟩ (hn e (by omega))
  · exact absurd h3 g1
/-- it can't take more rolls than there are steps -/
theorem hit_lt (hz : Dz z k t d) (ht : t ≤ 60) (hp : p < t) (hn : ∀ e, e < c → ¬ Hit d t p e) (h : Hit d t p c) : c < t := by
  have hd : ∀ y, y < t → d y < t := fun y hy => (hz.1 y hy).2
  have key : ∀ e, e ≤ c → e ≤ 100 → e + 1 ≤ cN (fun x => (mI3 z k t (mRi p) e x).toInt ≠ -6) t := by
    intro e
    induction e with
    | zero =>
      intro _ _
      have := cN_lt (p := fun _ => False) (q := fun x => (mI3 z k t (mRi p) 0 x).toInt ≠ -6) t (fun _ _ q => q.elim) ⟨p, hp, (row_n6 hz ht (by omega) hp).mpr rfl, id⟩
      omega
    | succ e ih =>
      intro h1 h2
      have ih := ih (by omega) (by omega)
      have hw : ∃ x, Re d t p (e + 1) x ∧ ¬ Re d t p e x := Classical.byContradiction (fun q => by
        have hall : ∀ x, Re d t p (e + 1) x → Re d t p e x := fun x hx => Classical.byContradiction (fun q2 => q ⟨x, hx, q2⟩)
        obtain ⟨x, x1, x2, x3⟩ := h
        refine hn e (by omega) ⟨x, x1, x2, Re_fix hall (c - e) x ?_⟩
        rw [show e + (c - e) = c by omega]
        exact x3)
      obtain ⟨x, x1, x2⟩ := hw
      have hx := Re_lt hp hd _ x x1
      have := cN_lt (p := fun x => (mI3 z k t (mRi p) e x).toInt ≠ -6) (q := fun x => (mI3 z k t (mRi p) (e + 1) x).toInt ≠ -6) t (fun y hy q => (row_n6 hz ht (by omega) hy).mpr (Or.inl ((row_n6 hz ht (by omega) hy).mp q))) ⟨x, hx, (row_n6 hz ht (by omega) hx).mpr x1, fun q => x2 ((row_n6 hz ht (by omega) hx).mp q)⟩
      omega
  refine Classical.byContradiction (fun q => ?_)
  have h1 := key t (by omega) (by omega)
  have h2 := cN_le (fun x => (mI3 z k t (mRi p) t x).toInt ≠ -6) t
  omega
theorem lst_of {P : Nat → Prop} : ∀ n, P n → ∃ m, P m ∧ ∀ e, e < m → ¬ P e := by
  have key : ∀ n, (∃ m, m ≤ n ∧ P m) → ∃ m, P m ∧ ∀ e, e < m → ¬ P e := by
    intro n
    induction n with
    | zero =>
      rintro ⟨m, h1, h2⟩
      have : m = 0 := by omega
      subst this
      exact ⟨0, h2, fun e he => absurd he (by omega)⟩
    | succ n ih =>
      rintro ⟨m, h1, h2⟩
      by_cases e : ∃ m, m ≤ n ∧ P m
      · exact ih e
      · exact ⟨m, h2, fun q hq hP => e ⟨q, by omega, hP⟩⟩
  exact fun n h => key n ⟨n, Nat.le_refl _, h⟩
theorem Rl.dst (h : Rl S z t n k m) {y : Nat} (hy : y < t) : gDst S y = mDs z k y ∧ ∃ q, q < t ∧ gDst S y = nI q := by
  have t60 := h.t60
  have hu := h.up (nI y)
  unfold gDst mDs
  rcases Cp_from t60 h.k6 h.cp (s := y) (by omega) with ⟨c1, c2⟩ | ⟨c1, c2, c3, c4, l, c5, c6⟩
  · rw [if_pos c1, if_neg (fun q => hu.mp q c1)]
    exact ⟨rfl, y, hy, rfl⟩
  · rw [if_neg c1, if_pos (hu.mpr c1), c2]
    exact ⟨rfl, l, by omega, c6⟩
theorem Rl.dz (h : Rl S z t n k m) : Dz z k t (fun y => (gDst S y).toNatClampNeg) := by
  have t60 := h.t60
  refine ⟨fun y hy => ?_, fun y hy hy2 => ?_⟩
  · obtain ⟨h1, q, h2, h3⟩ := h.dst hy
    show mDs z k y = nI (gDst S y).toNatClampNeg ∧ (gDst S y).toNatClampNeg < t
    rw [← h1, h3, nI_clamp (by omega)]
    exact ⟨rfl, h2⟩
  · unfold mDs
    rw [Cp_out t60 h.cp (fun v => by rw [nI_toInt (by omega)] at v; omega), if_pos (by decide)]
theorem Rl.few (h : Rl S z t n k m) (hc : c < n) : (∃ D, 1 ≤ D ∧ D ≤ 61 ∧ mHi z k t (mRi (z (8 + 6 * c)).toNatClampNeg) D ∧ (∀ d, 1 ≤ d → d < D → ¬ mHi z k t (mRi (z (8 + 6 * c)).toNatClampNeg) d) ∧ sFew S t t 1 (lB (g_pl S c)) = nI D) ∨ (∀ d, 1 ≤ d → d ≤ 61 → ¬ mHi z k t (mRi (z (8 + 6 * c)).toNatClampNeg) d) ∧ sFew S t t 1 (lB (g_pl S c)) = -6 := by
  have t60 := h.t60
  have t10 := h.t10
  have n6 := h.n6
  obtain ⟨p, p1, p2⟩ := h.plt c (by omega)
  have hz := h.dz
  rw [h.pl c (by omega), p2, nI_clamp (by omega)]
  obtain ⟨d, hd⟩ : ∃ d : Nat → Nat, d = fun y => (gDst S y).toNatClampNeg := ⟨_, rfl⟩
  rw [← hd] at hz
  have hD : ∀ y, y < t → gDst S y = nI (d y) := fun y hy => by
    rw [(h.dst hy).1]
    exact (hz.1 y hy).1
  have hdt : ∀ y, y < t → d y < t := fun y hy => (hz.1 y hy).2
  have hr0 : ∀ x, x < 64 → (lT (lB (nI p)) x ↔ Re d t p 0 x) := fun x hx => lT_B (by omega) hx
  by_cases e : ∃ c, Hit d t p c
  · obtain ⟨c1, hc1⟩ := e
    obtain ⟨c0, h0, h1⟩ := lst_of (P := Hit d t p) c1 hc1
    have hlt := hit_lt hz t60 p1 h1 h0
    refine Or.inl ⟨c0 + 1, by omega, by omega, mHi_hit hz t60 (by omega) h1 h0, fun D hD1 hD2 hH => ?_, sFew_at ⟨t10, t60⟩ p1 hdt hD h0 h1 t 0 _ hr0 (by omega) (by omega)⟩
    obtain ⟨D', rfl⟩ : ∃ D', D = D' + 1 := ⟨D - 1, by omega⟩
    exact h1 D' (by omega) (hit_mHi hz t60 (by omega) hH)
  · refine Or.inr ⟨fun D hD1 hD2 hH => ?_, sFew_no ⟨t10, t60⟩ p1 hdt hD (fun e' he' => e ⟨e', he'⟩) t 0 _ hr0⟩
    obtain ⟨D', rfl⟩ : ∃ D', D = D' + 1 := ⟨D - 1, by omega⟩
    exact e ⟨D', hit_mHi hz t60 (by omega) hH⟩
end RI
