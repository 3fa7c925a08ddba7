/-! what the law's rows say is what the class answers -/
section GM
variable {G : xG} {mem mm m' : xM} {rc rt T m m0 i j n s p k x g : Nat} {c t d l : Nat → Int32} {S : gS} {C : cS} {lf ro v : Int32}
theorem Rct.any (h : Rct S c t m 0 0) (m' : Nat) : Rct S c t m' 0 0 := by
  refine ⟨h.pl, h.tp, h.rs, h.tl, fun i hi => ?_, h.sl, h.t0, h.t1, h.t2, h.t3, h.t4, h.t5, h.t6⟩
  have q := h.lm i hi
  have z : ∀ a : Nat, (if i = a then (0 : Int32) else 0) = 0 := fun a => by split <;> rfl
  rw [z] at q ⊢
  exact q
theorem gAt_fr (h : gAt mem g S) (hf : Fr rc rt mem mm) (h1 : g + 9 ≤ rc) (h2 : g + 9 ≤ rt) : gAt mm g S := by
  obtain ⟨b0, b1, b2, b3, b4, b5, b6, b7, b8⟩ := h
  exact ⟨hf.get b0 (by omega) (by omega), hf.get b1 (by omega) (by omega), hf.get b2 (by omega) (by omega), hf.get b3 (by omega) (by omega), hf.get b4 (by omega) (by omega), hf.get b5 (by omega) (by omega), hf.get b6 (by omega) (by omega), hf.get b7 (by omega) (by omega), hf.get b8 (by omega) (by omega)⟩
/-- the class's object doesn't reach the law's rows -/
theorem cAt_fr (h : cAt mem C) (hf : Fr rc rt mem mm) (h1 : 86 ≤ rc) (h2 : 86 ≤ rt) : cAt mm C := by
  obtain ⟨a0, a1, a2, a3, a4, ⟨p, b0, ⟨f, b1, hf1⟩, b2, b3, b4⟩, a6, a7⟩ := h
  exact ⟨hf.get a0 (by omega) (by omega), gAt_fr a1 hf (by omega) (by omega), gAt_fr a2 hf (by omega) (by omega), gAt_fr a3 hf (by omega) (by omega), gAt_fr a4 hf (by omega) (by omega), ⟨p, hf.get b0 (by omega) (by omega), ⟨f, hf.get b1 (by omega) (by omega), hf1⟩, fun j hj => gAt_fr (b2 j hj) hf (by have := b3 j hj; omega) (by have := b3 j hj; omega), b3, b4⟩, hf.get a6 (by omega) (by omega), hf.get a7 (by omega) (by omega)⟩
/-- the law's rows stand at 86 to 89 and say S -/
def Lw (mem : xM) (S : gS) (d l c t : Nat → Int32) : Prop := mem[86]? = some (g_a 0 61 d) ∧ mem[87]? = some (g_a 0 61 l) ∧ La mem 88 89 c t ∧ Rd S d ∧ Ry S l ∧ Rct S c t 0 0 0
theorem Lw.app (h : Lw mem S d l c t) (xs : xM) : Lw (mem ++ xs) S d l c t := ⟨x_app_l h.1, x_app_l h.2.1, ⟨x_app_l h.2.2.1.1, x_app_l h.2.2.1.2⟩, h.2.2.2⟩
theorem Lw.s86 (h : Lw mem S d l c t) (hs : xS86 mem mm) : Lw mm S d l c t := ⟨(hs 86 (by decide)).trans h.1, (hs 87 (by decide)).trans h.2.1, ⟨(hs 88 (by decide)).trans h.2.2.1.1, (hs 89 (by decide)).trans h.2.2.1.2⟩, h.2.2.2⟩
theorem cAt_app (h : cAt mem C) (xs : xM) : cAt (mem ++ xs) C := cAt_fr (rc := 86) (rt := 86) h Fr.app (by decide) (by decide)
theorem pr_eq (hI : Iv S T n m) (hR : Rct S c t m0 lf ro) (hi : i < n) : c (6 * i + 1) * t 0 + c (6 * i) = gPr S (nI i) := by
  have n6 := hI.n6
  have ei : (nI i).toInt = (i : Int) := nI_toInt (by omega)
  rw [gPr, if_pos ⟨by omega, by rw [hI.gcI]; omega⟩, nI_clamp (by omega), hR.tp i (by omega), hR.pl i (by omega), hR.t0]
theorem y_prog (hI : Iv S T n m) (hR : Rct S c t m0 lf ro) (hL : La mem rc rt c t) (hi : i < n) : Dt G kL_progress [.ref rc, .ref rt, .int (nI i)] mem (some (.int (gPr S (nI i)))) mem := by
  have n6 := hI.n6
  rw [← pr_eq hI hR hi]
  exact y_progress hL (by omega)
theorem gPC_col (hI : Iv S T n m) (hR : Rct S c t m0 0 0) (hk : k < n) (hj : j < 6) : gPC S (nI k) (nI j) = c (6 * k + j) := by
  have n6 := hI.n6
  have ek : (nI k).toInt = (k : Int) := nI_toInt (by omega)
  have hc : ¬ ¬ g_isCl S (nI k) := fun z => z ⟨by omega, by rw [hI.gcI]; omega⟩
  have hlm := hR.lm k (by omega)
  have z : (if k = m0 then (0 : Int32) else 0) = 0 := by split <;> rfl
  rw [z, Int32.add_zero] at hlm
  unfold gPC
  rw [if_neg hc, nI_clamp (by omega)]
  match j, hj with
  | 0, _ => rw [if_pos (by decide)]; exact (hR.pl k (by omega)).symm
  | 1, _ => rw [if_neg (by decide), if_pos (by decide)]; exact (hR.tp k (by omega)).symm
  | 2, _ => rw [if_neg (by decide), if_neg (by decide), if_pos (by decide)]; exact (hR.rs k (by omega)).symm
  | 3, _ => rw [if_neg (by decide), if_neg (by decide), if_neg (by decide), if_pos (by decide)]; exact (hR.tl k (by omega)).symm
  | 4, _ => rw [if_neg (by decide), if_neg (by decide), if_neg (by decide), if_neg (by decide), if_pos (by decide)]; exact hlm.symm
  | 5, _ => rw [if_neg (by decide), if_neg (by decide), if_neg (by decide), if_neg (by decide), if_neg (by decide), if_pos (by decide)]; exact (hR.sl k (by omega)).symm
theorem gPC_6 (hI : Iv S T n m) (hk : k < n) : gPC S (nI k) 6 = gPr S (nI k) := by
  have n6 := hI.n6
  have ek : (nI k).toInt = (k : Int) := nI_toInt (by omega)
  have hc : ¬ ¬ g_isCl S (nI k) := fun z => z ⟨by omega, by rw [hI.gcI]; omega⟩
  unfold gPC
  rw [if_neg hc, if_neg (by decide), if_neg (by decide), if_neg (by decide), if_neg (by decide), if_neg (by decide), if_neg (by decide), if_pos rfl]
theorem ahd_inj {a b : Nat} (ha : a < n) (hb : b < n) (hn : n ≤ 6) (h : (sCn (g_ahd S (nI a)) n).toInt = (sCn (g_ahd S (nI b)) n).toInt) : a = b := by
  have l1 := cN_le (g_ahd S (nI a)) n
  have l2 := cN_le (g_ahd S (nI b)) n
  have q1 : (sCn (g_ahd S (nI a)) n).toInt = (cN (g_ahd S (nI a)) n : Int) := by rw [sCn_nI]; exact nI_toInt (by omega)
  have q2 : (sCn (g_ahd S (nI b)) n).toInt = (cN (g_ahd S (nI b)) n : Int) := by rw [sCn_nI]; exact nI_toInt (by omega)
  have en : ∀ o : Nat, o < n → (nI o).toInt = (o : Int) := fun o ho => nI_toInt (by omega)
  by_cases e : a = b
  · exact e
  · exfalso
    have tot : ∀ a b, a < n → b < n → a ≠ b → ¬ g_ahd S (nI b) a → g_ahd S (nI a) b := fun a b ha hb hne hh => by
      have ea := en a ha
      have eb := en b hb
      unfold g_ahd at hh ⊢
      omega
    have lt : ∀ a b, a < n → b < n → g_ahd S (nI b) a → cN (g_ahd S (nI a)) n < cN (g_ahd S (nI b)) n := fun a b ha hb hh => by
      have ea := en a ha
      have eb := en b hb
      refine cN_lt n (fun o ho hoa => ?_) ⟨a, ha, hh, ?_⟩
      · have eo := en o ho
        unfold g_ahd at hoa hh ⊢
        omega
      · unfold g_ahd
        omega
    by_cases e2 : g_ahd S (nI b) a
    · have := lt a b ha hb e2; omega
    · have := lt b a hb ha (tot a b ha hb e e2); omega
theorem rank_at (hn : n ≤ 6) (hk : k < n) : (if (sCn (g_ahd S (nI k)) n).toInt < 0 then -2 else sFst (fun c => (sCn (g_ahd S (nI c)) n).toInt = (sCn (g_ahd S (nI k)) n).toInt) n 0) = nI k := by
  have l1 := cN_le (g_ahd S (nI k)) n
  have e : (sCn (g_ahd S (nI k)) n).toInt = (cN (g_ahd S (nI k)) n : Int) := by rw [sCn_nI, nI_toInt (by omega)]
  rw [if_neg (by omega)]
  exact sFst_at (p := fun c => (sCn (g_ahd S (nI c)) n).toInt = (sCn (g_ahd S (nI k)) n).toInt) rfl n 0 (by omega) (by omega) (fun r _ hr hh => by
    have := ahd_inj (S := S) (a := r) (b := k) (by omega) hk hn hh
    omega)
theorem rank_n (hn : n ≤ 6) : (if (nI n).toInt < 0 then -2 else sFst (fun c => (sCn (g_ahd S (nI c)) n).toInt = (nI n).toInt) n 0) = -6 := by
  have en : (nI n).toInt = (n : Int) := nI_toInt (by omega)
  rw [if_neg (by omega)]
  refine sFst_no n 0 (fun c _ hc hh => ?_)
  have q := cN_lt (p := g_ahd S (nI c)) (q := fun _ => True) n (fun _ _ _ => trivial) ⟨c, by omega, trivial, fun z => by unfold g_ahd at z; omega⟩
  have q2 := cN_le (fun _ => True) n
  rw [sCn_nI, nI_toInt (by omega), en] at hh
  omega
def sPl (p : Nat → Prop) [DecidablePred p] : Nat → Int32
  | 0 => 0
  | c + 1 => sPl p c + (if p c then 1 <<< (nI c &&& 31) else 0)
theorem or_pl : ∀ n, n < 6 → ∀ a, a < 64 → a < 2 ^ n → a ||| 2 ^ n = a + 2 ^ n := by decide
theorem sh_pl : ∀ n, n < 7 → (1 : Int32) <<< (nI n &&& 31) = nI (2 ^ n) := by decide
theorem p2_64 : ∀ n, n < 6 → 2 ^ n < 64 ∧ 2 ^ (n + 1) = 2 ^ n + 2 ^ n ∧ 2 ^ (n + 1) ≤ 64 := by decide
theorem sOn_pl (pl : Nat → Int32) (x : Int32) : ∀ n, n ≤ 6 → ∃ a, a < 2 ^ n ∧ sOn pl x n = nI a ∧ sPl (fun c => (pl c).toInt = x.toInt) n = nI a
  | 0, _ => ⟨0, by decide, rfl, rfl⟩
  | n + 1, h => by
    obtain ⟨a, h1, h2, h3⟩ := sOn_pl pl x n (by omega)
    have q := p2_64 n (by omega)
    rw [sOn, sPl, h2, h3]
    by_cases e : (pl n).toInt = x.toInt
    · refine ⟨a + 2 ^ n, by omega, ?_, ?_⟩
      · rw [if_pos e, i_or64 n (by omega) a (by omega), or_pl n (by omega) a (by omega) h1]
      · rw [if_pos e, sh_pl n (by omega), nI_add]
    · exact ⟨a, by omega, by rw [if_neg e], by rw [if_neg e, Int32.add_zero]⟩
theorem sPl_congr {p q : Nat → Prop} [DecidablePred p] [DecidablePred q] : ∀ n, (∀ i, i < n → (p i ↔ q i)) → sPl p n = sPl q n
  | 0, _ => rfl
  | n + 1, h => by
    rw [sPl, sPl, sPl_congr n (fun i hi => h i (by omega))]
    by_cases e : p n
    · rw [if_pos e, if_pos ((h n (by omega)).mp e)]
    · rw [if_neg e, if_neg (fun a => e ((h n (by omega)).mpr a))]
theorem on_eq (hI : Iv S T n m) (hR : Rct S c t m0 lf ro) (x : Int32) : sOn (g_pl S) x n = sPl (fun i => (c (6 * i)).toInt = x.toInt) n := by
  have n6 := hI.n6
  obtain ⟨a, h1, h2, h3⟩ := sOn_pl (g_pl S) x n n6
  rw [h2, ← h3]
  exact sPl_congr n (fun i hi => by rw [hR.pl i (by omega)])
theorem cN_cut {p : Nat → Prop} [DecidablePred p] {n : Nat} : ∀ d, (∀ c, n ≤ c → c < n + d → ¬ p c) → cN p (n + d) = cN p n
  | 0, _ => rfl
  | d + 1, h => by
    show (if p (n + d) then cN p (n + d) + 1 else cN p (n + d)) = _
    rw [if_neg (h (n + d) (by omega) (by omega)), cN_cut d (fun c h1 h2 => h c h1 (by omega))]
theorem cN_cut61 {p : Nat → Prop} [DecidablePred p] (hT : T ≤ 60) (h : ∀ c, T ≤ c → c < 61 → ¬ p c) : cN p 61 = cN p T := by
  have q := cN_cut (p := p) (n := T) (61 - T) (fun c h1 h2 => h c h1 (by omega))
  rw [show T + (61 - T) = 61 by omega] at q
  exact q
theorem Rd.out (hd : Rd S d) (hI : Iv S T n m) (h1 : T ≤ s) (h2 : s < 61) : d s = -1 := by
  by_cases e : s = 60
  · rw [e]; exact hd.1
  · rcases hd.2 s (by omega) with ⟨q1, q2⟩ | ⟨q, q1, q2, q3⟩
    · exact q2
    · rcases hI.le s (by omega) with z | ⟨l, z1, z2, z3⟩
      · rw [q2] at z; exact absurd z (nI_ne6 (by omega))
      · omega
theorem Ry.out (hl : Ry S l) (hI : Iv S T n m) (h1 : T ≤ s) (h2 : s < 61) : l s = 0 := by
  by_cases e : s = 60
  · rw [e]; exact hl.1
  · rw [(hl.2 s (by omega)).1]; exact hI.lt s h1 (by omega)
theorem ends_eq (hI : Iv S T n m) (hd : Rd S d) {x : Int32} (hx : 0 ≤ x.toInt) : sCn (fun s => (d s).toInt = x.toInt) 61 = sCn (fun s => (g_le S s).toInt = x.toInt) T := by
  have t60 := hI.t60
  have e1 : (-1 : Int32).toInt = -1 := by decide
  have e6 : (-6 : Int32).toInt = -6 := by decide
  rw [sCn_nI, sCn_nI, cN_cut61 (T := T) t60 (fun s h1 h2 z => by rw [hd.out hI h1 h2, e1] at z; omega)]
  refine congrArg nI (cN_congr T (fun s hs => ?_))
  rcases hd.2 s (by omega) with ⟨q1, q2⟩ | ⟨q, q1, q2, q3⟩
  · rw [q1, q2, e1, e6]; omega
  · rw [q2, q3]
theorem land_eq (hI : Iv S T n m) (hl : Ry S l) : sCn (fun s => 0 < (l s).toInt) 61 = sCn (g_lan (g_la S)) T := by
  have t60 := hI.t60
  have e0 : (0 : Int32).toInt = 0 := by decide
  have e1 : (1 : Int32).toInt = 1 := by decide
  rw [sCn_nI, sCn_nI, cN_cut61 (T := T) t60 (fun s h1 h2 z => by rw [hl.out hI h1 h2, e0] at z; omega)]
  refine congrArg nI (cN_congr T (fun s hs => ?_))
  have q := hl.2 s (by omega)
  show 0 < (l s).toInt ↔ (g_la S s).toInt ≠ 0
  rw [q.1]
  rcases q.2 with e | e
  · rw [e, e0]; omega
  · rw [e, e1]; omega
theorem tops_eq (hI : Iv S T n m) (hR : Rct S c t m0 lf ro) : sSm (fun i => c (6 * i + 1)) n = sSm (g_tp S) 6 := by
  have n6 := hI.n6
  have q := sSm_ext (f := g_tp S) (n := n) (6 - n) (fun i h1 h2 => (hI.out i (by omega) h1).2.1)
  rw [show n + (6 - n) = 6 by omega] at q
  rw [q]
  exact sSm_congr n (fun i hi => hR.tp i (by omega))
theorem st0 (hI : Iv S T n m) (hl : Ry S l) (hs : s < T) : gPS S T (nI s) 0 = l s := by
  have t60 := hI.t60
  have es : (nI s).toInt = (s : Int) := nI_toInt (by omega)
  have hb : g_below S (nI s) := ⟨by omega, by rw [hI.gtI]; omega⟩
  have q := hl.2 s (by omega)
  unfold gPS
  rw [if_neg (fun z => z (Or.inr hb)), if_pos rfl, q.1]
  rcases q.2 with e | e
  · rw [b2i_f (fun z => z.2 (by rw [nI_clamp (by omega), e]; decide)), e]
  · rw [b2i_t ⟨hb, by rw [nI_clamp (by omega), e]; decide⟩, e]
theorem st1 (hI : Iv S T n m) (hd : Rd S d) (hs : s < T) : gPS S T (nI s) 1 = if (d s).toInt < 0 then -6 else d s := by
  have t60 := hI.t60
  have es : (nI s).toInt = (s : Int) := nI_toInt (by omega)
  have hb : g_below S (nI s) := ⟨by omega, by rw [hI.gtI]; omega⟩
  unfold gPS
  rw [if_neg (fun z => z (Or.inr hb)), if_neg (by decide), if_pos rfl]
  by_cases e : g_le S s = -6
  · rw [if_neg (fun z => z.2 (by rw [nI_clamp (by omega), e]; decide)), if_pos ((hd.neg (by omega)).mpr e)]
  · rw [if_pos ⟨hb, fun z => by rw [nI_clamp (by omega)] at z; exact e (i_6.mp z)⟩, if_neg (fun z => e ((hd.neg (by omega)).mp z)), nI_clamp (by omega), hd.eq (by omega) e]
theorem st2 (hI : Iv S T n m) (hd : Rd S d) (hs : s < T) : gPS S T (nI s) 2 = sCn (fun k => (d k).toInt = (nI s).toInt) 61 := by
  have t60 := hI.t60
  have es : (nI s).toInt = (s : Int) := nI_toInt (by omega)
  have hb : g_below S (nI s) := ⟨by omega, by rw [hI.gtI]; omega⟩
  unfold gPS
  rw [if_neg (fun z => z (Or.inr hb)), if_neg (by decide), if_neg (by decide), if_pos rfl, ends_eq hI hd (by omega)]
theorem stT (hI : Iv S T n m) : gPS S T (nI T) 0 = 0 := by
  have t60 := hI.t60
  have eT : (nI T).toInt = (T : Int) := nI_toInt (by omega)
  unfold gPS
  rw [if_neg (fun z => z (Or.inl (by rw [hI.gtI]; exact eT))), if_pos rfl, b2i_f (fun z => by have := z.1.2; rw [hI.gtI] at this; omega)]
theorem mv_eq (hI : Iv S T n m) : (if g_isCl S (g_mv S) then g_mv S else -6) = if n = 0 then -6 else nI m := by
  have m6 := hI.m6
  have em := hI.gmI
  have ec := hI.gcI
  by_cases e : n = 0
  · rw [if_pos e, if_neg (fun z => by have := z.2; omega)]
  · rw [if_neg e, if_pos ⟨by omega, by have := hI.mn; omega⟩, hI.gm]
end GM
