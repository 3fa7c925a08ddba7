/-! the law's state; what its cases ask -/
section ST
variable {G : xG} {mem mm M : xM} {T n m u k x y st lo i q : Nat} {S V : gS} {v w nc : Int32} {d l c t : Nat → Int32}
abbrev lR : Option Value → xM → Prop := fun v _ => v = some (.int 1)
def StX (mem : xM) (nc : Int32) (n : Nat) : Prop := ∃ S T m d l c t, Wd mem S ∧ Lw mem S d l c t ∧ Iv S T n m ∧ nc = sCn (g_up (g_le S)) T ∧ cN (g_up (g_le S)) T ≤ 6
theorem Lw.le90 (h : Lw mem S d l c t) : 90 ≤ mem.length := by
  have := x_lt h.2.2.1.2
  omega
/-- in the rows one thing has changed -/
theorem Lw.at (h : Lw mem S d l c t) (hs : xS86 mem mm) {d' l' c' t' : Nat → Int32} (h1 : d' = d) (h2 : l' = l) (h3 : c' = c) (h4 : t' = t) (g1 : Rd V d') (g2 : Ry V l') (g3 : Rct V c' t' 0 0 0) : Lw mm V d' l' c' t' := by
  subst h1 h2 h3 h4
  have q := h.s86 hs
  exact ⟨q.1, q.2.1, q.2.2.1, g1, g2, g3⟩
theorem i_z {v : Int32} : v.toInt = 0 ↔ v = 0 := ⟨fun h => Int32.toInt_inj.mp (h.trans (by decide)), fun h => by rw [h]; decide⟩
theorem i_1 {v : Int32} : v.toInt = 1 ↔ v = 1 := ⟨fun h => Int32.toInt_inj.mp (h.trans (by decide)), fun h => by rw [h]; decide⟩
theorem up_d (hI : Iv S T n m) (hd : Rd S d) (hs : st < T) : g_isUp S (nI st) ↔ ¬ (d st).toInt < 0 := by
  have t60 := hI.t60
  have es : (nI st).toInt = (st : Int) := nI_toInt (by omega)
  rw [hd.neg (by omega)]
  constructor
  · intro z e
    have z2 := z.2
    rw [nI_clamp (by omega), e] at z2
    exact z2 (by decide)
  · intro z
    refine ⟨⟨by omega, by rw [hI.gtI]; omega⟩, fun e => z ?_⟩
    rw [nI_clamp (by omega)] at e
    exact i_6.mp e
theorem up_g (hI : Iv S T n m) (hd : Rd S d) (hs : st < T) : g_up (g_le S) st ↔ ¬ (d st).toInt < 0 := by
  have t60 := hI.t60
  rw [hd.neg (by omega)]
  exact ⟨fun z e => z (by rw [e]; decide), fun z e => z (i_6.mp e)⟩
theorem la_l (hI : Iv S T n m) (hl : Ry S l) (hs : st < T) : (l st).toInt = 0 ↔ g_la S st = 0 := by
  have t60 := hI.t60
  rw [(hl.2 st (by omega)).1]
  exact i_z
theorem la_is (hI : Iv S T n m) (hl : Ry S l) (hs : st ≤ T) : g_isLa S (nI st) ↔ (l st).toInt = 1 := by
  have t60 := hI.t60
  have es : (nI st).toInt = (st : Int) := nI_toInt (by omega)
  have e0 : (0 : Int32).toInt = 0 := by decide
  have e1 : (1 : Int32).toInt = 1 := by decide
  by_cases e : st = T
  · rw [hl.out hI (s := st) (by omega) (by omega), e0]
    exact ⟨fun z => by have := z.1.2; rw [hI.gtI] at this; omega, fun z => absurd z (by decide)⟩
  · have q := hl.2 st (by omega)
    rw [q.1]
    constructor
    · intro z
      have z2 := z.2
      rw [nI_clamp (by omega)] at z2
      rcases q.2 with r | r
      · rw [r] at z2; exact absurd e0 z2
      · rw [r]; exact e1
    · intro z
      refine ⟨⟨by omega, by rw [hI.gtI]; omega⟩, ?_⟩
      rw [nI_clamp (by omega), z]
      decide
theorem why1 (hI : Iv S T n m) (hs : st ≤ T) : g_why1 S (nI st) ↔ ¬ (0 < st ∧ st < T) := by
  have t60 := hI.t60
  have es : (nI st).toInt = (st : Int) := nI_toInt (by omega)
  have eT := hI.gtI
  unfold g_why1
  constructor
  · rintro (z | z) y
    · omega
    · exact z ⟨by omega, by omega⟩
  · intro z
    by_cases e : st = 0
    · exact Or.inl (by omega)
    · exact Or.inr (fun y => z ⟨by omega, by have := y.2; omega⟩)
theorem cnt0 {p : Nat → Prop} [DecidablePred p] {n : Nat} (hn : n ≤ 100) : (sCn p n).toInt = 0 ↔ ∀ i, i < n → ¬ p i := by
  have h1 := cN_le p n
  rw [sCn_nI, nI_toInt (by omega)]
  constructor
  · intro h i hi hp
    have := cN_lt (p := fun _ => False) (q := p) n (fun _ _ v => v.elim) ⟨i, hi, hp, id⟩
    omega
  · intro h
    rw [cN_none n h]
    rfl
theorem there0 (hI : Iv S T n m) (hR : Rct S c t 0 0 0) (v : Int32) : (sCn (fun i => (c (6 * i)).toInt = v.toInt) n).toInt = 0 ↔ (sOn (g_pl S) v n).toInt = 0 := by
  have n6 := hI.n6
  rw [cnt0 (by omega)]
  constructor
  · intro h
    rw [sOn_z n (fun i hi e => h i hi (by rw [hR.pl i (by omega), e]))]
    decide
  · intro h i hi e
    refine sOn_0 n n6 h i hi ?_
    rw [hR.pl i (by omega)] at e
    exact Int32.toInt_inj.mp e
theorem bc_pl : ∀ n, n < 6 → ∀ a, a < 64 → a < 2 ^ n → sBc (nI (a + 2 ^ n)) = sBc (nI a) + 1 := by decide
theorem there_bc (pl : Nat → Int32) (x : Int32) : ∀ n, n ≤ 6 → ∃ a, a < 2 ^ n ∧ sOn pl x n = nI a ∧ sCn (fun c => (pl c).toInt = x.toInt) n = sBc (nI a)
  | 0, _ => ⟨0, by decide, rfl, by show (0 : Int32) = sBc (nI 0); decide⟩
  | n + 1, h => by
    obtain ⟨a, h1, h2, h3⟩ := there_bc pl x n (by omega)
    have q := p2_64 n (by omega)
    rw [sOn, sCn, h2, h3]
    by_cases e : (pl n).toInt = x.toInt
    · refine ⟨a + 2 ^ n, by omega, ?_, ?_⟩
      · rw [if_pos e, i_or64 n (by omega) a (by omega), or_pl n (by omega) a (by omega) h1]
      · rw [if_pos e, bc_pl n (by omega) a (by omega) h1]
    · exact ⟨a, by omega, by rw [if_neg e], by rw [if_neg e]⟩
theorem there_eq (hI : Iv S T n m) (hR : Rct S c t 0 0 0) (v : Int32) : sBc (sOn (g_pl S) v n) = sCn (fun i => (c (6 * i)).toInt = v.toInt) n := by
  have n6 := hI.n6
  obtain ⟨a, _, h2, h3⟩ := there_bc (g_pl S) v n n6
  rw [h2, ← h3, sCn_nI, sCn_nI]
  exact congrArg nI (cN_congr n (fun i hi => by rw [hR.pl i (by omega)]))
/-! what is kept -/
theorem Iv.top (hI : Iv S T n m) (hx : 10 ≤ x ∧ x ≤ 60) (hf : ∀ s, x ≤ s → s < T → ¬ g_blk S n s) : Iv (g_wO S (nI x) (g_cl S) (g_mv S) (g_ro S) (g_lo S)) x n m ∧ sCn (g_up (g_le S)) T = sCn (g_up (g_le S)) x := by
  have t60 := hI.t60
  have n6 := hI.n6
  have hup : ∀ s, x ≤ s → s < 60 → g_le S s = -6 := fun s h1 h2 => by
    rcases hI.le s h2 with e | ⟨l, q1, q2, q3⟩
    · exact e
    · have es : (nI s).toInt = (s : Int) := nI_toInt (by omega)
      exact absurd (Or.inr (Or.inl ⟨⟨by omega, by rw [hI.gtI]; omega⟩, by rw [nI_clamp (by omega), q3]; exact fun z => nI_ne6 (a := l) (by omega) (i_6.mp z)⟩)) (hf s h1 q2)
  refine ⟨⟨rfl, hx.1, hx.2, hI.gc, n6, hI.gm, hI.mn, hI.out, fun i hi => ?_, hI.rs, hI.la, fun s h1 h2 => ?_, fun s hs => ?_, hI.r0⟩, ?_⟩
  · obtain ⟨p, p1, p2⟩ := hI.pl i hi
    refine ⟨p, ?_, p2⟩
    by_cases e : p < x
    · exact e
    · by_cases hin : i < n
      · exfalso
        refine hf p (by omega) p1 (Or.inr (Or.inr (fun z => sOn_0 n n6 z i hin p2)))
      · have q := (hI.out i hi (by omega)).1
        rw [p2] at q
        have := nI_inj (a := p) (b := 0) (by omega) (by omega) q
        omega
  · by_cases e : s < T
    · have q := hf s h1 e
      exact Classical.byContradiction (fun z => q (Or.inl (fun y => z (i_z.mp y))))
    · exact hI.lt s (by omega) h2
  · rcases hI.le s hs with e | ⟨l, q1, q2, q3⟩
    · exact Or.inl e
    · by_cases e : s < x
      · exact Or.inr ⟨l, q1, e, q3⟩
      · exact Or.inl (hup s (by omega) hs)
  · have z : ∀ s, T ≤ s ∨ x ≤ s → s < 60 → ¬ g_up (g_le S) s := fun s h1 h2 z => by
      by_cases e : x ≤ s
      · exact z (by rw [hup s e h2]; decide)
      · rcases hI.le s h2 with e2 | ⟨l, q1, q2, q3⟩
        · exact z (by rw [e2]; decide)
        · omega
    rw [sCn_nI, sCn_nI]
    refine congrArg nI ?_
    have a1 := cN_cut (p := g_up (g_le S)) (n := T) (60 - T) (fun s h1 h2 => z s (Or.inl h1) (by omega))
    have a2 := cN_cut (p := g_up (g_le S)) (n := x) (60 - x) (fun s h1 h2 => z s (Or.inr h1) (by omega))
    rw [show T + (60 - T) = 60 by omega] at a1
    rw [show x + (60 - x) = 60 by omega] at a2
    omega
theorem Iv.lay (hI : Iv S T n m) (hs : st < T) (hlo : lo < st) : Iv (gLay S (nI st) (nI lo)) T n m := by
  have t60 := hI.t60
  unfold gLay
  rw [nI_clamp (by omega)]
  refine ⟨hI.gt, hI.t10, hI.t60, hI.gc, hI.n6, hI.gm, hI.mn, hI.out, hI.pl, hI.rs, hI.la, hI.lt, fun s h => ?_, hI.r0⟩
  show upd (g_le S) st (nI lo) s = -6 ∨ ∃ l, l < s ∧ s < T ∧ upd (g_le S) st (nI lo) s = nI l
  by_cases e : s = st
  · subst e; rw [upd_same]; exact Or.inr ⟨lo, hlo, hs, rfl⟩
  · rw [upd_ne e]; exact hI.le s h
theorem Iv.take (hI : Iv S T n m) (hs : st < T) : Iv (gTake S (nI st)) T n m := by
  have t60 := hI.t60
  unfold gTake
  rw [nI_clamp (by omega)]
  refine ⟨hI.gt, hI.t10, hI.t60, hI.gc, hI.n6, hI.gm, hI.mn, hI.out, hI.pl, hI.rs, hI.la, hI.lt, fun s h => ?_, hI.r0⟩
  show upd (g_le S) st (-6) s = -6 ∨ ∃ l, l < s ∧ s < T ∧ upd (g_le S) st (-6) s = nI l
  by_cases e : s = st
  · subst e; rw [upd_same]; exact Or.inl rfl
  · rw [upd_ne e]; exact hI.le s h
theorem Iv.putL (hI : Iv S T n m) (hs : st < T) (hv : v = 0 ∨ v = 1) : Iv (gPutL S (nI st) v) T n m := by
  have t60 := hI.t60
  unfold gPutL
  rw [nI_clamp (by omega)]
  refine ⟨hI.gt, hI.t10, hI.t60, hI.gc, hI.n6, hI.gm, hI.mn, hI.out, hI.pl, hI.rs, fun s h => ?_, fun s h1 h2 => ?_, hI.le, hI.r0⟩
  · show upd (g_la S) st v s = 0 ∨ upd (g_la S) st v s = 1
    by_cases e : s = st
    · subst e; rw [upd_same]; exact hv
    · rw [upd_ne e]; exact hI.la s h
  · exact (upd_ne (by omega)).trans (hI.lt s h1 h2)
theorem Iv.join (hI : Iv S T n m) (hn : n < 6) : Iv (gAdd S) T (n + 1) m := by
  refine ⟨hI.gt, hI.t10, hI.t60, (congrArg (fun z => z + 1) hI.gc).trans (nI_1 n), by omega, hI.gm, ?_, fun i hi h => hI.out i hi (by omega), hI.pl, hI.rs, hI.la, hI.lt, hI.le, hI.r0⟩
  have := hI.mn
  omega
theorem Rd.lay (hd : Rd S d) (hs : st < 60) (hlo : lo < st) : Rd (gLay S (nI st) (nI lo)) (upd d st (nI lo)) := by
  unfold gLay
  rw [nI_clamp (by omega)]
  refine ⟨(upd_ne (by omega)).trans hd.1, fun s h => ?_⟩
  show (upd (g_le S) st (nI lo) s = -6 ∧ upd d st (nI lo) s = -1) ∨ ∃ l, l < s ∧ upd (g_le S) st (nI lo) s = nI l ∧ upd d st (nI lo) s = nI l
  by_cases e : s = st
  · subst e; rw [upd_same, upd_same]; exact Or.inr ⟨lo, hlo, rfl, rfl⟩
  · rw [upd_ne e, upd_ne e]; exact hd.2 s h
theorem Rd.take (hd : Rd S d) (hs : st < 60) : Rd (gTake S (nI st)) (upd d st (-1)) := by
  unfold gTake
  rw [nI_clamp (by omega)]
  refine ⟨(upd_ne (by omega)).trans hd.1, fun s h => ?_⟩
  show (upd (g_le S) st (-6) s = -6 ∧ upd d st (-1) s = -1) ∨ ∃ l, l < s ∧ upd (g_le S) st (-6) s = nI l ∧ upd d st (-1) s = nI l
  by_cases e : s = st
  · subst e; rw [upd_same, upd_same]; exact Or.inl ⟨rfl, rfl⟩
  · rw [upd_ne e, upd_ne e]; exact hd.2 s h
theorem Ry.put (hl : Ry S l) (hs : st < 60) (hv : v = 0 ∨ v = 1) : Ry (gPutL S (nI st) v) (upd l st v) := by
  unfold gPutL
  rw [nI_clamp (by omega)]
  refine ⟨(upd_ne (by omega)).trans hl.1, fun s h => ?_⟩
  show upd l st v s = upd (g_la S) st v s ∧ (upd (g_la S) st v s = 0 ∨ upd (g_la S) st v s = 1)
  by_cases e : s = st
  · subst e; rw [upd_same, upd_same]; exact ⟨rfl, hv⟩
  · rw [upd_ne e, upd_ne e]; exact hl.2 s h
/-- carpets counted -/
theorem car_lay (hI : Iv S T n m) (hs : st < T) (he : g_le S st = -6) (hlo : lo < st) : sCn (g_up (g_le (gLay S (nI st) (nI lo)))) T = sCn (g_up (g_le S)) T + 1 ∧ cN (g_up (g_le (gLay S (nI st) (nI lo)))) T = cN (g_up (g_le S)) T + 1 := by
  have t60 := hI.t60
  have q := cN_upd (fun z => z.toInt ≠ -6) (g_le S) st (nI lo) T hs
  rw [he, if_neg (fun z => z (by decide)), if_pos (fun z => nI_ne6 (a := lo) (by omega) (i_6.mp z))] at q
  have e1 : cN (g_up (g_le (gLay S (nI st) (nI lo)))) T = cN (g_up (g_le S)) T + 1 := by
    unfold gLay
    rw [nI_clamp (by omega)]
    exact q
  refine ⟨?_, e1⟩
  rw [sCn_nI, sCn_nI, e1, nI_1]
theorem car_take (hI : Iv S T n m) (hs : st < T) (he : ¬ g_le S st = -6) : sCn (g_up (g_le (gTake S (nI st)))) T = sCn (g_up (g_le S)) T + (-1) ∧ cN (g_up (g_le (gTake S (nI st)))) T + 1 = cN (g_up (g_le S)) T := by
  have t60 := hI.t60
  have q := cN_upd (fun z => z.toInt ≠ -6) (g_le S) st (-6) T hs
  rw [if_pos (fun z => he (i_6.mp z)), if_neg (fun z => z (by decide))] at q
  have e1 : cN (g_up (g_le (gTake S (nI st)))) T + 1 = cN (g_up (g_le S)) T := by
    unfold gTake
    rw [nI_clamp (by omega)]
    exact q
  refine ⟨?_, e1⟩
  rw [sCn_nI, sCn_nI, ← e1, ← nI_1, ← i_sub1, Int32.add_sub_cancel]
end ST
