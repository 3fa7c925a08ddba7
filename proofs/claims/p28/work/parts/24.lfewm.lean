/-! the fewest rolls, from behind: nearer and nearer until nothing changes -/
section FM
variable {d f f0 : Nat → Nat} {t p c s n w : Nat} {S : gS} {dd : Nat → Int32} {more : Int32}
/-- the top can be reached from there by at most so many rolls -/
def Tp (d : Nat → Nat) (t : Nat) : Nat → Nat → Prop
  | 0, _ => False
  | w + 1, s => t ≤ s + 6 ∨ ∃ y, s < y ∧ y ≤ s + 6 ∧ y < t ∧ Tp d t w (d y)
theorem Re_pre (hp : p < t) : ∀ c x, Re d t p (c + 1) x ↔ x = p ∨ ∃ y, p < y ∧ y ≤ p + 6 ∧ y < t ∧ Re d t (d y) c x
  | 0, x => by
    constructor
    · rintro (h | ⟨s, h1, h2, y, h3, h4, h5, h6⟩)
      · exact Or.inl h
      · have h2 : s = p := h2
        subst h2
        exact Or.inr ⟨y, h3, h4, h5, h6.symm⟩
    · rintro (h | ⟨y, h3, h4, h5, h6⟩)
      · exact Or.inl h
      · exact Or.inr ⟨p, hp, rfl, y, h3, h4, h5, Eq.symm h6⟩
  | c + 1, x => by
    have ih := Re_pre hp c
    constructor
    · rintro (h | ⟨s, h1, h2, y', h3⟩)
      · rcases (ih x).mp h with h | ⟨y, h4, h5, h6, h7⟩
        · exact Or.inl h
        · exact Or.inr ⟨y, h4, h5, h6, Or.inl h7⟩
      · rcases (ih s).mp h2 with h | ⟨y, h4, h5, h6, h7⟩
        · subst h
          refine Or.inr ⟨y', h3.1, h3.2.1, h3.2.2.1, Re_mono (a := 0) (by omega) ?_⟩
          exact h3.2.2.2.symm
        · exact Or.inr ⟨y, h4, h5, h6, Or.inr ⟨s, h1, h7, y', h3⟩⟩
    · rintro (h | ⟨y, h4, h5, h6, h7⟩)
      · exact Re_mono (a := 0) (by omega) h
      · rcases h7 with h7 | ⟨s, h1, h7, y', h3⟩
        · exact Or.inl ((ih x).mpr (Or.inr ⟨y, h4, h5, h6, h7⟩))
        · exact Or.inr ⟨s, h1, (ih s).mpr (Or.inr ⟨y, h4, h5, h6, h7⟩), y', h3⟩
theorem Hit_Tp (hd : ∀ y, y < t → d y < t) : ∀ c p, p < t → (Hit d t p c ↔ Tp d t (c + 1) p)
  | 0, p, hp => by
    constructor
    · rintro ⟨x, h1, h2, h3⟩
      have h3 : x = p := h3
      subst h3
      exact Or.inl h2
    · rintro (h | ⟨y, _, _, _, h⟩)
      · exact ⟨p, hp, h, rfl⟩
      · exact h.elim
  | c + 1, p, hp => by
    constructor
    · rintro ⟨x, h1, h2, h3⟩
      rcases (Re_pre hp c x).mp h3 with h | ⟨y, h4, h5, h6, h7⟩
      · subst h; exact Or.inl h2
      · exact Or.inr ⟨y, h4, h5, h6, (Hit_Tp hd c (d y) (hd y h6)).mp ⟨x, h1, h2, h7⟩⟩
    · rintro (h | ⟨y, h4, h5, h6, h7⟩)
      · exact ⟨p, hp, h, Re_mono (a := 0) (by omega) rfl⟩
      · obtain ⟨x, h1, h2, h3⟩ := (Hit_Tp hd c (d y) (hd y h6)).mpr h7
        exact ⟨x, h1, h2, (Re_pre hp c x).mpr (Or.inr ⟨y, h4, h5, h6, h3⟩)⟩
def updN (f : Nat → Nat) (s w : Nat) : Nat → Nat := fun j => if j = s then w else f j
theorem updN_same : updN f s w s = w := if_pos rfl
theorem updN_ne {j : Nat} (h : j ≠ s) : updN f s w j = f j := if_neg h
def wayN (d : Nat → Nat) (t : Nat) (f : Nat → Nat) (s n : Nat) : Nat := if t ≤ s + n then 1 else if f (d (s + n)) = 0 then 0 else f (d (s + n)) + 1
def Fi (d : Nat → Nat) (t : Nat) (f : Nat → Nat) : Prop := (∀ s, s < t → f s ≠ 0 → Tp d t (f s) s) ∧ (∀ s, f s ≤ cN (fun j => f j ≠ 0) t) ∧ ∀ s, t ≤ s → f s = 0
/-- nothing to be done there -/
def Stb (d : Nat → Nat) (t : Nat) (f : Nat → Nat) (s n : Nat) : Prop := wayN d t f s n = 0 ∨ f s ≠ 0 ∧ f s ≤ wayN d t f s n
def Mu (f : Nat → Nat) : Nat → Nat
  | 0 => 0
  | c + 1 => Mu f c + (if f c = 0 then 61 else f c)
theorem Mu_ne : ∀ n, n ≤ s → Mu (updN f s w) n = Mu f n
  | 0, _ => rfl
  | n + 1, h => by
    rw [Mu, Mu, Mu_ne n (by omega), updN_ne (by omega)]
theorem Mu_upd : ∀ n, s < n → Mu (updN f s w) n + (if f s = 0 then 61 else f s) = Mu f n + (if w = 0 then 61 else w)
  | 0, h => absurd h (by omega)
  | n + 1, h => by
    rw [Mu, Mu]
    by_cases e : n = s
    · subst e
      rw [Mu_ne n (Nat.le_refl _), updN_same]
      omega
    · have ih := Mu_upd n (by omega)
      rw [updN_ne e]
      omega
theorem Fi_le (h : Fi d t f) (s : Nat) : f s ≤ t := Nat.le_trans (h.2.1 s) (cN_le _ t)
theorem Fi_upd (hd : ∀ y, y < t → d y < t) (h : Fi d t f) (hs : s < t) (hn : 1 ≤ n ∧ n ≤ 6) (hw : wayN d t f s n ≠ 0) (hu : f s = 0 ∨ wayN d t f s n < f s) : Fi d t (updN f s (wayN d t f s n)) ∧ Mu (updN f s (wayN d t f s n)) t < Mu f t + (if t ≤ 60 then 0 else Mu (updN f s (wayN d t f s n)) t) := by
  obtain ⟨h1, h2, h3⟩ := h
  obtain ⟨w, hwe⟩ : ∃ w, w = wayN d t f s n := ⟨_, rfl⟩
  rw [← hwe] at hw hu ⊢
  have hT : Tp d t w s ∧ w ≤ cN (fun j => f j ≠ 0) t + 1 := by
    rw [hwe] at hw ⊢
    unfold wayN at hw ⊢
    by_cases e : t ≤ s + n
    · rw [if_pos e]
      exact ⟨Or.inl (by omega), by omega⟩
    · rw [if_neg e] at hw ⊢
      by_cases e2 : f (d (s + n)) = 0
      · rw [if_pos e2] at hw; exact absurd rfl hw
      · rw [if_neg e2]
        exact ⟨Or.inr ⟨s + n, by omega, by omega, by omega, h1 _ (hd _ (by omega)) e2⟩, by have := h2 (d (s + n)); omega⟩
  have hc : cN (fun j => updN f s w j ≠ 0) t = cN (fun j => f j ≠ 0) t + (if f s = 0 then 1 else 0) := by
    by_cases e : f s = 0
    · have q := cN_one (p := fun j => f j ≠ 0) (q := fun j => updN f s w j ≠ 0) (k := s) (fun z => z e) (by rw [updN_same]; exact hw) t (fun i hi => ⟨fun z => by rw [updN_ne z.1] at z; exact z.2, fun z => ⟨fun e2 => z (by rw [e2]; exact e), by rw [updN_ne (fun e2 => z (by rw [e2]; exact e))]; exact z⟩⟩)
      rw [if_pos hs] at q
      rw [if_pos e, q]
    · rw [if_neg e]
      refine cN_congr t (fun j hj => ?_)
      by_cases ej : j = s
      · subst ej; rw [updN_same]; exact ⟨fun _ => e, fun _ => hw⟩
      · rw [updN_ne ej]
  have hwc : w ≤ cN (fun j => f j ≠ 0) t + (if f s = 0 then 1 else 0) := by
    rcases hu with e | e
    · rw [if_pos e]; exact hT.2
    · have := h2 s
      omega
  refine ⟨⟨fun j hj hne => ?_, fun j => ?_, fun j hj => ?_⟩, ?_⟩
  · by_cases ej : j = s
    · subst ej; rw [updN_same]; exact hT.1
    · rw [updN_ne ej] at hne ⊢
      exact h1 j hj hne
  · rw [hc]
    by_cases ej : j = s
    · subst ej; rw [updN_same]; exact hwc
    · rw [updN_ne ej]
      have := h2 j
      omega
  · rw [updN_ne (by omega)]
    exact h3 j hj
  · by_cases t60 : t ≤ 60
    · rw [if_pos t60]
      have q := Mu_upd (f := f) (s := s) (w := w) t hs
      have hcl := cN_le (fun j => f j ≠ 0) t
      rw [if_neg hw] at q
      rcases hu with e | e
      · rw [if_pos e] at q hwc
        have hcl2 := cN_le (fun j => updN f s w j ≠ 0) t
        rw [hc, if_pos e] at hcl2
        omega
      · rw [if_neg (by omega)] at q
        omega
    · rw [if_neg t60]
      have q := Mu_upd (f := f) (s := s) (w := w) t hs
      have : 0 < Mu f t := by
        rcases hu with e | e
        · rw [if_neg hw, if_pos e] at q
          have hz : w ≤ t := by
            have := cN_le (fun j => updN f s w j ≠ 0) t
            rw [hc] at this
            omega
          have q2 := Mu_upd (f := f) (s := s) (w := 0) t hs
          rw [if_pos e, if_pos rfl] at q2
          have q3 := Mu_upd (f := f) (s := s) (w := 1) t hs
          rw [if_pos e, if_neg (by decide)] at q3
          omega
        · rw [if_neg hw, if_neg (by omega)] at q
          omega
      omega
/-- a pass that began with f0, before step s with n: nothing has changed yet, or less is left -/
def Ps (d : Nat → Nat) (t : Nat) (f0 f : Nat → Nat) (more : Int32) (s n : Nat) : Prop := Fi d t f ∧ ((more = 0 ∧ f = f0 ∧ ∀ s' n', 1 ≤ n' → n' ≤ 6 → s' < s ∨ s' = s ∧ n' < n → Stb d t f s' n') ∨ more = 1 ∧ Mu f t < Mu f0 t)
theorem Ps_upd (hd : ∀ y, y < t → d y < t) (t60 : t ≤ 60) (h : Ps d t f0 f more s n) (hs : s < t) (hn : 1 ≤ n ∧ n ≤ 6) (hw : wayN d t f s n ≠ 0) (hu : f s = 0 ∨ wayN d t f s n < f s) : Ps d t f0 (updN f s (wayN d t f s n)) 1 s (n + 1) := by
  obtain ⟨g1, g2⟩ := Fi_upd hd h.1 hs hn hw hu
  rw [if_pos t60] at g2
  refine ⟨g1, Or.inr ⟨rfl, ?_⟩⟩
  rcases h.2 with ⟨_, e, _⟩ | ⟨_, e⟩
  · rw [← e]; omega
  · omega
theorem Ps_no (h : Ps d t f0 f more s n) (hb : Stb d t f s n) : Ps d t f0 f more s (n + 1) := by
  refine ⟨h.1, ?_⟩
  rcases h.2 with ⟨e1, e2, e3⟩ | e
  · refine Or.inl ⟨e1, e2, fun s' n' h1 h2 h3 => ?_⟩
    by_cases e : s' = s ∧ n' = n
    · rw [e.1, e.2]; exact hb
    · exact e3 s' n' h1 h2 (by omega)
  · exact Or.inr e
theorem Ps_nx (h : Ps d t f0 f more s 7) : Ps d t f0 f more (s + 1) 1 := by
  refine ⟨h.1, ?_⟩
  rcases h.2 with ⟨e1, e2, e3⟩ | e
  · exact Or.inl ⟨e1, e2, fun s' n' h1 h2 h3 => e3 s' n' h1 h2 (by omega)⟩
  · exact Or.inr e
theorem Stb_all (hb : ∀ s n, s < t → 1 ≤ n → n ≤ 6 → Stb d t f s n) (hd : ∀ y, y < t → d y < t) : ∀ w s, s < t → Tp d t w s → f s ≠ 0 ∧ f s ≤ w
  | 0, s, _, h => h.elim
  | w + 1, s, hs, h => by
    rcases h with h | ⟨y, h1, h2, h3, h4⟩
    · rcases hb s 6 hs (by decide) (by decide) with e | e
      · unfold wayN at e
        rw [if_pos h] at e
        exact absurd e (by decide)
      · unfold wayN at e
        rw [if_pos h] at e
        exact ⟨e.1, by omega⟩
    · have ih := Stb_all hb hd w (d y) (hd y h3) h4
      have q := hb s (y - s) hs (by omega) (by omega)
      unfold Stb wayN at q
      rw [show s + (y - s) = y by omega, if_neg (by omega), if_neg ih.1] at q
      rcases q with e | e
      · omega
      · exact ⟨e.1, by omega⟩
/-- the law's fewest rolls are the class's -/
theorem few_eq (ht : 10 ≤ t ∧ t ≤ 60) (hp : p < t) (hd : ∀ y, y < t → d y < t) (hD : ∀ y, y < t → gDst S y = nI (d y)) (hF : Fi d t f) (hb : ∀ s n, s < t → 1 ≤ n → n ≤ 6 → Stb d t f s n) : sFew S t t 1 (lB (nI p)) = if f p = 0 then -6 else nI (f p) := by
  have hr0 : ∀ x, x < 64 → (lT (lB (nI p)) x ↔ Re d t p 0 x) := fun x hx => lT_B (by omega) hx
  by_cases e : f p = 0
  · rw [if_pos e]
    refine sFew_no ht hp hd hD (fun c hc => ?_) t 0 _ hr0
    exact (Stb_all hb hd _ p hp ((Hit_Tp hd c p hp).mp hc)).1 e
  · rw [if_neg e]
    obtain ⟨c0, hc0⟩ : ∃ c0, f p = c0 + 1 := ⟨f p - 1, by omega⟩
    have h0 : Hit d t p c0 := (Hit_Tp hd c0 p hp).mpr (by rw [← hc0]; exact hF.1 p hp e)
    have h1 : ∀ c, c < c0 → ¬ Hit d t p c := fun c hc hh => by
      have := (Stb_all hb hd _ p hp ((Hit_Tp hd c p hp).mp hh)).2
      omega
    have := Fi_le hF p
    rw [hc0]
    exact sFew_at ht hp hd hD h0 h1 t 0 _ hr0 (by omega) (by omega)
end FM
