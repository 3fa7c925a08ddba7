/-! of the class's states alone: counts, sums, lifts, the fewest rolls -/
theorem upd_same {f : Nat → Int32} {i : Nat} {v : Int32} : upd f i v i = v := if_pos rfl
theorem upd_ne {f : Nat → Int32} {i j : Nat} {v : Int32} (h : j ≠ i) : upd f i v j = f j := if_neg h
theorem upd_self {f : Nat → Int32} {i : Nat} : upd f i (f i) = f := by
  funext j
  by_cases h : j = i
  · subst h; exact upd_same
  · exact upd_ne h
section CO
variable {z f f' f'' pl : Nat → Int32} {t n k m c x p i j a b e s : Nat} {v w u : Int32} {S T : gS}
def cN (p : Nat → Prop) [DecidablePred p] : Nat → Nat
  | 0 => 0
  | c + 1 => if p c then cN p c + 1 else cN p c
theorem sCn_nI (p : Nat → Prop) [DecidablePred p] : ∀ n, sCn p n = nI (cN p n)
  | 0 => rfl
  | n + 1 => by
    rw [sCn, cN, sCn_nI p n]
    split
    · exact nI_1 _
    · rfl
theorem cN_le (p : Nat → Prop) [DecidablePred p] : ∀ n, cN p n ≤ n
  | 0 => Nat.le_refl _
  | n + 1 => by
    have := cN_le p n
    rw [cN]
    split <;> omega
theorem cN_congr {p q : Nat → Prop} [DecidablePred p] [DecidablePred q] : ∀ n, (∀ c, c < n → (p c ↔ q c)) → cN p n = cN q n
  | 0, _ => rfl
  | n + 1, h => by
    rw [cN, cN, cN_congr n (fun c hc => h c (by omega))]
    by_cases e : p n
    · rw [if_pos e, if_pos ((h n (by omega)).mp e)]
    · rw [if_neg e, if_neg (fun x => e ((h n (by omega)).mpr x))]
theorem cN_all {p : Nat → Prop} [DecidablePred p] : ∀ n, (∀ c, c < n → p c) → cN p n = n
  | 0, _ => rfl
  | n + 1, h => by rw [cN, if_pos (h n (by omega)), cN_all n (fun c hc => h c (by omega))]
theorem cN_none {p : Nat → Prop} [DecidablePred p] : ∀ n, (∀ c, c < n → ¬ p c) → cN p n = 0
  | 0, _ => rfl
  | n + 1, h => by rw [cN, if_neg (h n (by omega)), cN_none n (fun c hc => h c (by omega))]
theorem cN_pos {p : Nat → Prop} [DecidablePred p] : ∀ n, 0 < cN p n → ∃ c, c < n ∧ p c
  | 0, h => (Nat.lt_irrefl 0 h).elim
  | n + 1, h => by
    by_cases e : p n
    · exact ⟨n, by omega, e⟩
    · rw [cN, if_neg e] at h
      obtain ⟨c, h1, h2⟩ := cN_pos n h
      exact ⟨c, by omega, h2⟩
theorem cN_upd (p : Int32 → Prop) [DecidablePred p] (f : Nat → Int32) (u : Nat) (v : Int32) : ∀ n, u < n → cN (fun s => p (upd f u v s)) n + (if p (f u) then 1 else 0) = cN (fun s => p (f s)) n + (if p v then 1 else 0)
  | 0, h => absurd h (by omega)
  | n + 1, h => by
    rw [cN, cN]
    by_cases e : u = n
    · subst e
      have e1 : upd f u v u = v := upd_same
      have e2 : cN (fun s => p (upd f u v s)) u = cN (fun s => p (f s)) u := cN_congr u (fun c hc => by rw [show upd f u v c = f c from upd_ne (by omega)])
      rw [e1, e2]
      by_cases a : p v <;> by_cases b : p (f u)
      · rw [if_pos a, if_pos b, if_pos b, if_pos a]
      · rw [if_pos a, if_neg b, if_neg b, if_pos a]
      · rw [if_neg a, if_pos b, if_pos b, if_neg a]
      · rw [if_neg a, if_neg b, if_neg b, if_neg a]
    · have e1 : upd f u v n = f n := upd_ne (fun x => e x.symm)
      have ih := cN_upd p f u v n (by omega)
      rw [e1]
      by_cases a : p (f n)
      · rw [if_pos a, if_pos a]; omega
      · rw [if_neg a, if_neg a]; exact ih
theorem nI_inj {a b : Nat} (ha : a < 2147483648) (hb : b < 2147483648) (h : nI a = nI b) : a = b := by
  have e := congrArg Int32.toInt h
  rw [nI_toInt ha, nI_toInt hb] at e
  omega
theorem nI_ne6 {a : Nat} (ha : a < 2147483648) : nI a ≠ -6 := fun h => by
  have e := congrArg Int32.toInt h
  rw [nI_toInt ha, show (-6 : Int32).toInt = -6 by decide] at e
  omega
theorem sSm_congr {f g : Nat → Int32} : ∀ n, (∀ c, c < n → f c = g c) → sSm f n = sSm g n
  | 0, _ => rfl
  | n + 1, h => by rw [sSm, sSm, sSm_congr n (fun c hc => h c (by omega)), h n (by omega)]
theorem sSm_ext {f : Nat → Int32} {n : Nat} : ∀ d, (∀ c, n ≤ c → c < n + d → f c = 0) → sSm f (n + d) = sSm f n
  | 0, _ => rfl
  | d + 1, h => by rw [show n + (d + 1) = (n + d) + 1 from rfl, sSm, sSm_ext d (fun c h1 h2 => h c h1 (by omega)), h (n + d) (by omega) (by omega), Int32.add_zero]
theorem sOn_congr {f g : Nat → Int32} {x : Int32} : ∀ n, (∀ c, c < n → f c = g c) → sOn f x n = sOn g x n
  | 0, _ => rfl
  | n + 1, h => by rw [sOn, sOn, sOn_congr n (fun c hc => h c (by omega)), h n (by omega)]
theorem cN_lt {p q : Nat → Prop} [DecidablePred p] [DecidablePred q] : ∀ n, (∀ c, c < n → p c → q c) → (∃ c, c < n ∧ q c ∧ ¬ p c) → cN p n < cN q n
  | 0, _, h => by obtain ⟨c, h1, _⟩ := h; omega
  | n + 1, h, hw => by
    have hle : ∀ n, (∀ c, c < n → p c → q c) → cN p n ≤ cN q n := by
      intro n
      induction n with
      | zero => exact fun _ => Nat.le_refl _
      | succ n ih =>
        intro h
        have := ih (fun c hc => h c (by omega))
        rw [cN, cN]
        by_cases e : p n
        · rw [if_pos e, if_pos (h n (by omega) e)]; omega
        · rw [if_neg e]; split <;> omega
    obtain ⟨w, h1, h2, h3⟩ := hw
    rw [cN, cN]
    by_cases e : w = n
    · subst e
      have := hle w (fun c hc => h c (by omega))
      rw [if_neg h3, if_pos h2]; omega
    · have := cN_lt n (fun c hc => h c (by omega)) ⟨w, by omega, h2, h3⟩
      by_cases a : p n
      · rw [if_pos a, if_pos (h n (by omega) a)]; omega
      · rw [if_neg a]; split <;> omega
theorem sFst_no {p : Nat → Prop} [DecidablePred p] : ∀ d i, (∀ c, i ≤ c → c < i + d → ¬ p c) → sFst p d i = -6
  | 0, _, _ => rfl
  | d + 1, i, h => by rw [sFst, if_neg (h i (Nat.le_refl _) (by omega)), sFst_no d (i + 1) (fun c h1 h2 => h c (by omega) (by omega))]
theorem sFst_at {p : Nat → Prop} [DecidablePred p] {c : Nat} (hc : p c) : ∀ d i, i ≤ c → c < i + d → (∀ r, i ≤ r → r < c → ¬ p r) → sFst p d i = nI c
  | 0, i, h1, h2, _ => absurd h1 (by omega)
  | d + 1, i, h1, h2, h3 => by
    rw [sFst]
    by_cases e : i = c
    · subst e
      rw [if_pos hc]
    · rw [if_neg (h3 i (Nat.le_refl _) (by omega)), sFst_at hc d (i + 1) (by omega) (by omega) (fun r a b => h3 r (by omega) b)]
theorem i_or0 {a b : Int32} (h : (a ||| b).toInt = 0) : a.toInt = 0 ∧ b.toInt = 0 := by
  have e : a ||| b = 0 := Int32.toInt_inj.mp (h.trans (by decide))
  have e2 : a.toBitVec ||| b.toBitVec = 0#32 := congrArg Int32.toBitVec e
  have e3 := BitVec.or_eq_zero_iff.mp e2
  have ea : a = 0 := Int32.toBitVec_inj.mp e3.1
  have eb : b = 0 := Int32.toBitVec_inj.mp e3.2
  rw [ea, eb]
  decide
theorem i_shl1 : ∀ c, c < 6 → ((1 : Int32) <<< (nI c &&& 31)).toInt ≠ 0 := by
  intro c hc
  match c, hc with
  | 0, _ => decide
  | 1, _ => decide
  | 2, _ => decide
  | 3, _ => decide
  | 4, _ => decide
  | 5, _ => decide
theorem sOn_0 {pl : Nat → Int32} {x : Int32} : ∀ n, n ≤ 6 → (sOn pl x n).toInt = 0 → ∀ c, c < n → pl c ≠ x
  | 0, _, _, c, hc => absurd hc (by omega)
  | n + 1, hn, h, c, hc => by
    rw [sOn] at h
    by_cases e : (pl n).toInt = x.toInt
    · rw [if_pos e] at h
      exact absurd (i_or0 h).2 (i_shl1 n (by omega))
    · rw [if_neg e] at h
      by_cases ec : c = n
      · subst ec
        exact fun v => e (congrArg Int32.toInt v)
      · exact sOn_0 n (by omega) h c (by omega)
theorem sOn_z {pl : Nat → Int32} {x : Int32} : ∀ n, (∀ c, c < n → pl c ≠ x) → sOn pl x n = 0
  | 0, _ => rfl
  | n + 1, h => by rw [sOn, if_neg (fun v => h n (by omega) (Int32.toInt_inj.mp v)), sOn_z n (fun c hc => h c (by omega))]
theorem i_or64 : ∀ n, n < 6 → ∀ a, a < 64 → (nI a ||| ((1 : Int32) <<< (nI n &&& 31))) = nI (a ||| 2 ^ n) := by decide
theorem i_or64b : ∀ n, n < 6 → ∀ a, a < 64 → a ||| 2 ^ n < 64 := by decide
theorem sOn_64 (pl : Nat → Int32) (x : Int32) : ∀ n, n ≤ 6 → ∃ a, a < 64 ∧ sOn pl x n = nI a
  | 0, _ => ⟨0, by decide, rfl⟩
  | n + 1, hn => by
    obtain ⟨a, h1, h2⟩ := sOn_64 pl x n (by omega)
    rw [sOn, h2]
    by_cases e : (pl n).toInt = x.toInt
    · rw [if_pos e, i_or64 n (by omega) a h1]
      exact ⟨_, i_or64b n (by omega) a h1, rfl⟩
    · rw [if_neg e]
      exact ⟨a, h1, rfl⟩
theorem sSm_upd (f : Nat → Int32) (c : Nat) (v : Int32) : ∀ n, c < n → sSm (upd f c (f c + v)) n = sSm f n + v
  | 0, h => absurd h (by omega)
  | n + 1, h => by
    rw [sSm, sSm]
    by_cases e : c = n
    · subst e
      rw [sSm_congr (f := upd f c (f c + v)) (g := f) c (fun i hi => upd_ne (by omega)), upd_same, Int32.add_assoc]
    · rw [sSm_upd f c v n (by omega), show upd f c (f c + v) n = f n from upd_ne (fun a => e a.symm), Int32.add_assoc, Int32.add_assoc, Int32.add_comm v (f n)]
def gLf (T : gS) (m c : Nat) : gS := gCome (g_wLm (g_wTl T (upd (g_tl T) c (g_tl T c + 1))) (upd (g_lm T) m (g_lm T m + 1))) c (g_pl T c + 1)
theorem upd_comm (h : i ≠ j) : upd (upd z i v) j w = upd (upd z j w) i v := by
  funext a
  by_cases e1 : a = i
  · subst e1
    rw [upd_ne h, upd_same, upd_same]
  · by_cases e2 : a = j
    · subst e2
      rw [upd_same, upd_ne e1, upd_same]
    · rw [upd_ne e2, upd_ne e1, upd_ne e1, upd_ne e2]
theorem upd_upd : upd (upd z i v) i w = upd z i w := by
  funext a
  by_cases e : a = i
  · subst e; rw [upd_same, upd_same]
  · rw [upd_ne e, upd_ne e, upd_ne e]
def gV (le : Nat → Int32) (top x : Int32) : Int32 := if 0 ≤ x.toInt ∧ x.toInt < top.toInt then (if (le x.toNatClampNeg).toInt = -6 then x else le x.toNatClampNeg) else 0
def gVa (top x : Int32) : Int32 := if 0 ≤ x.toInt ∧ x.toInt < top.toInt then 0 else 1
def gVb (le : Nat → Int32) (top x : Int32) : Int32 := if 0 ≤ x.toInt ∧ x.toInt < top.toInt then (if (le x.toNatClampNeg).toInt = -6 then 0 else 1) else 0
theorem gCome_nf (T : gS) (c : Nat) (x : Int32) : gCome T c x = (T.1, T.2.1, upd (g_pl T) c (gV (g_le T) (g_top T) x), upd (g_tp T) c (g_tp T c + gVa (g_top T) x), g_rs T, g_tl T, g_lm T, upd (g_sl T) c (g_sl T c + gVb (g_le T) (g_top T) x), T.2.2.2.2.2.2.2.2) := by
  unfold gCome gV gVa gVb g_below
  by_cases e : 0 ≤ x.toInt ∧ x.toInt < (g_top T).toInt
  · rw [if_pos e, if_pos e, if_pos e, if_pos e, if_pos e, if_pos e, Int32.add_zero, upd_self]
    by_cases e2 : (g_le T x.toNatClampNeg).toInt = -6
    · rw [if_pos e2, if_pos e2, if_pos e2, if_pos e2, Int32.add_zero, upd_self]
    · rw [if_neg e2, if_neg e2, if_neg e2, if_neg e2]
  · rw [if_neg e, if_neg e, if_neg e, if_neg e, if_neg e, if_neg e, Int32.add_zero, upd_self]
theorem gLf_nf (T : gS) (m c : Nat) : gLf T m c = (T.1, T.2.1, upd (g_pl T) c (gV (g_le T) (g_top T) (g_pl T c + 1)), upd (g_tp T) c (g_tp T c + gVa (g_top T) (g_pl T c + 1)), g_rs T, upd (g_tl T) c (g_tl T c + 1), upd (g_lm T) m (g_lm T m + 1), upd (g_sl T) c (g_sl T c + gVb (g_le T) (g_top T) (g_pl T c + 1)), T.2.2.2.2.2.2.2.2) := by
  unfold gLf
  rw [gCome_nf]
theorem upd2 {f : Nat → Int32} {a b : Int32} (h : i ≠ c) : upd (upd f c a) i b = upd (upd f i b) c a := upd_comm (fun e => h e.symm)
theorem gLf_comm (h : i ≠ c) : gLf (gLf T m c) m i = gLf (gLf T m i) m c := by
  have h' : c ≠ i := fun e => h e.symm
  rw [gLf_nf T m c, gLf_nf T m i, gLf_nf, gLf_nf]
  show (T.1, T.2.1, upd (upd (g_pl T) c _) i (gV (g_le T) (g_top T) (upd (g_pl T) c _ i + 1)), upd (upd (g_tp T) c _) i (upd (g_tp T) c _ i + gVa (g_top T) (upd (g_pl T) c _ i + 1)), g_rs T, upd (upd (g_tl T) c _) i (upd (g_tl T) c _ i + 1), upd (upd (g_lm T) m _) m (upd (g_lm T) m _ m + 1), upd (upd (g_sl T) c _) i (upd (g_sl T) c _ i + gVb (g_le T) (g_top T) (upd (g_pl T) c _ i + 1)), T.2.2.2.2.2.2.2.2) = (T.1, T.2.1, upd (upd (g_pl T) i _) c (gV (g_le T) (g_top T) (upd (g_pl T) i _ c + 1)), upd (upd (g_tp T) i _) c (upd (g_tp T) i _ c + gVa (g_top T) (upd (g_pl T) i _ c + 1)), g_rs T, upd (upd (g_tl T) i _) c (upd (g_tl T) i _ c + 1), upd (upd (g_lm T) m _) m (upd (g_lm T) m _ m + 1), upd (upd (g_sl T) i _) c (upd (g_sl T) i _ c + gVb (g_le T) (g_top T) (upd (g_pl T) i _ c + 1)), T.2.2.2.2.2.2.2.2)
  simp only [upd_ne h, upd_ne h']
  rw [upd2 (f := g_pl T) h, upd2 (f := g_tp T) h, upd2 (f := g_tl T) h, upd2 (f := g_sl T) h]
def gLs (T : gS) (m : Nat) (p : Nat → Prop) [DecidablePred p] : Nat → gS
  | 0 => T
  | i + 1 => if p i then gLf (gLs T m p i) m i else gLs T m p i
theorem gLs_congr {p q : Nat → Prop} [DecidablePred p] [DecidablePred q] : ∀ n, (∀ i, i < n → (p i ↔ q i)) → gLs T m p n = gLs T m q n
  | 0, _ => rfl
  | n + 1, h => by
    rw [gLs, gLs, gLs_congr n (fun i hi => h i (by omega))]
    by_cases e : p n
    · rw [if_pos e, if_pos ((h n (by omega)).mp e)]
    · rw [if_neg e, if_neg (fun a => e ((h n (by omega)).mpr a))]
theorem gLs_pull {p : Nat → Prop} [DecidablePred p] : ∀ n, n ≤ c → gLs (gLf T m c) m p n = gLf (gLs T m p n) m c
  | 0, _ => rfl
  | n + 1, h => by
    rw [gLs, gLs, gLs_pull n (by omega)]
    by_cases e : p n
    · rw [if_pos e, if_pos e]
      exact gLf_comm (by omega)
    · rw [if_neg e, if_neg e]
theorem gLs_first {p : Nat → Prop} [DecidablePred p] (hc : p c) : ∀ n, c < n → gLs (gLf T m c) m (fun i => i ≠ c ∧ p i) n = gLs T m p n
  | 0, h => absurd h (by omega)
  | n + 1, h => by
    rw [gLs, gLs]
    by_cases e : n = c
    · subst e
      rw [if_neg (fun a => a.1 rfl), if_pos hc, gLs_pull n (Nat.le_refl _)]
      exact congrArg (fun q => gLf q m n) (gLs_congr n (fun i hi => ⟨fun a => a.2, fun a => ⟨by omega, a⟩⟩))
    · rw [gLs_first hc n (by omega)]
      by_cases e2 : p n
      · rw [if_pos ⟨e, e2⟩, if_pos e2]
      · rw [if_neg (fun a => e2 a.2), if_neg e2]
theorem gLf_pl (h : i ≠ c) : g_pl (gLf T m c) i = g_pl T i := by
  rw [gLf_nf]
  exact upd_ne h
theorem gLiftTo_gLs (hm : g_mv T = nI m) (hm6 : m < 6) : ∀ i, gLiftTo T u i = gLs T m (fun c => g_psd T c u) i ∧ (∀ c, i ≤ c → g_pl (gLiftTo T u i) c = g_pl T c) ∧ g_pl (gLiftTo T u i) m = g_pl T m
  | 0 => ⟨rfl, fun _ _ => rfl, rfl⟩
  | i + 1 => by
    obtain ⟨h1, h2, h3⟩ := gLiftTo_gLs hm hm6 i
    have em : (nI m).toNatClampNeg = m := nI_clamp (by omega)
    obtain ⟨f1, f2, f3, f4⟩ := gLiftTo_fix T u i
    have fm : g_mv (gLiftTo T u i) = nI m := (congrArg (fun q : Int32 × Int32 × Int32 × Int32 × Int32 => q.2.2.1) f4).trans hm
    have ft : g_top (gLiftTo T u i) = g_top T := congrArg (fun q : Int32 × Int32 × Int32 × Int32 × Int32 => q.1) f4
    have hp : g_psd (gLiftTo T u i) i u ↔ g_psd T i u := by
      unfold g_psd g_isLa
      rw [fm, hm, em, h3, h2 i (Nat.le_refl _), ft, f2]
    rw [gLiftTo, gLs, ← h1]
    by_cases e : g_psd T i u
    · rw [if_pos (hp.mpr e), if_pos e, fm, em]
      have hne : ∀ c, c ≠ i → g_pl (gLf (gLiftTo T u i) m i) c = g_pl (gLiftTo T u i) c := fun c hc => gLf_pl hc
      refine ⟨rfl, fun c hc => (hne c (by omega)).trans (h2 c (by omega)), (hne m (fun q => ?_)).trans h3⟩
      subst q
      have := e.1
      rw [hm, em] at this
      omega
    · rw [if_neg (fun q => e (hp.mp q)), if_neg e]
      exact ⟨rfl, fun c hc => h2 c (by omega), h3⟩
end CO
section CO2
variable {z f : Nat → Int32} {t n k m c i j a b p : Nat} {v w u : Int32} {S T : gS}
theorem l_sh : ∀ s, s < 64 → (nI s).toInt64.toUInt64 &&& Int64.toUInt64 63 = UInt64.ofNat s := by decide
theorem l_shN : ∀ s, s < 64 → (UInt64.ofNat s).toNat % 64 = s := by decide
theorem l_and1 (y : UInt64) : y.toInt64 &&& 1 ≠ 0 ↔ y.toNat.testBit 0 = true := by
  rw [Nat.testBit_zero, decide_eq_true_eq]
  have e1 : (y &&& 1).toNat = y.toNat % 2 := by
    rw [UInt64.toNat_and]
    exact Nat.and_one_is_mod y.toNat
  constructor
  · intro h
    refine Classical.byContradiction (fun hn => h ?_)
    have e2 : (y &&& 1).toNat = (0 : UInt64).toNat := by
      rw [e1]
      show y.toNat % 2 = 0
      omega
    have e3 : y &&& 1 = 0 := UInt64.toNat_inj.mp e2
    show (y &&& 1).toInt64 = 0
    rw [e3]
    rfl
  · intro h hn
    have e3 : y &&& 1 = 0 := congrArg Int64.toUInt64 (show (y &&& 1).toInt64 = 0 from hn)
    rw [e3] at e1
    have : (0 : UInt64).toNat = 0 := rfl
    omega
theorem lT_bit (r : Int64) {s : Nat} (hs : s < 64) : lT r s ↔ r.toUInt64.toNat.testBit s = true := by
  show (r.toUInt64 >>> ((nI s).toInt64.toUInt64 &&& Int64.toUInt64 63)).toInt64 &&& 1 ≠ 0 ↔ _
  rw [l_sh s hs, l_and1, UInt64.toNat_shiftRight, l_shN s hs, Nat.testBit_shiftRight, Nat.add_zero]
theorem lT_or (a b : Int64) {s : Nat} (hs : s < 64) : lT (a ||| b) s ↔ lT a s ∨ lT b s := by
  rw [lT_bit _ hs, lT_bit _ hs, lT_bit _ hs]
  show (a.toUInt64 ||| b.toUInt64).toNat.testBit s = true ↔ _
  rw [UInt64.toNat_or, Nat.testBit_or, Bool.or_eq_true]
theorem lT_0 {s : Nat} (hs : s < 64) : ¬ lT 0 s := by
  rw [lT_bit _ hs]
  show ¬ (0 : Nat).testBit s = true
  rw [Nat.zero_testBit]
  decide
theorem lB_nat : ∀ s, s < 60 → (lB (nI s)).toUInt64.toNat = 2 ^ s := by decide
theorem lT_B {p s : Nat} (hp : p < 60) (hs : s < 64) : lT (lB (nI p)) s ↔ s = p := by
  rw [lT_bit _ hs, lB_nat p hp, Nat.testBit_two_pow, decide_eq_true_eq]
  omega
theorem l_shT : ∀ t, t < 61 → 10 ≤ t → (nI t - 6).toInt64.toUInt64 &&& Int64.toUInt64 63 = UInt64.ofNat (t - 6) := by decide
theorem lTop_iff (r : Int64) {t : Nat} (ht : 10 ≤ t ∧ t ≤ 60) : lTop r t ↔ ∃ s, t ≤ s + 6 ∧ s < 64 ∧ lT r s := by
  have hlt : r.toUInt64.toNat < 2 ^ 64 := r.toUInt64.toNat_lt
  show (r.toUInt64 >>> ((nI t - 6).toInt64.toUInt64 &&& Int64.toUInt64 63)).toInt64 ≠ 0 ↔ _
  rw [l_shT t (by omega) ht.1]
  obtain ⟨y, hy⟩ : ∃ y, r.toUInt64 >>> UInt64.ofNat (t - 6) = y := ⟨_, rfl⟩
  have hyN : y.toNat = r.toUInt64.toNat >>> (t - 6) := by
    rw [← hy, UInt64.toNat_shiftRight, l_shN _ (by omega)]
  rw [hy]
  constructor
  · intro h
    have hne : y.toNat ≠ 0 := fun e => h (by
      have : y = 0 := UInt64.toNat_inj.mp e
      rw [this]
      rfl)
    obtain ⟨i, hi⟩ := Nat.exists_testBit_of_ne_zero hne
    rw [hyN, Nat.testBit_shiftRight] at hi
    have h64 : t - 6 + i < 64 := by
      refine Classical.byContradiction (fun hn => ?_)
      have hle : (2 : Nat) ^ 64 ≤ 2 ^ (t - 6 + i) := Nat.pow_le_pow_right (by decide) (by omega)
      rw [Nat.testBit_lt_two_pow (Nat.lt_of_lt_of_le hlt hle)] at hi
      exact absurd hi (by decide)
    exact ⟨t - 6 + i, by omega, h64, (lT_bit r h64).mpr hi⟩
  · rintro ⟨s, h1, h2, h3⟩ h
    have hb := (lT_bit r h2).mp h3
    have e : y = 0 := congrArg Int64.toUInt64 h
    have e2 : y.toNat.testBit (s - (t - 6)) = true := by
      rw [hyN, Nat.testBit_shiftRight, show t - 6 + (s - (t - 6)) = s by omega]
      exact hb
    rw [e] at e2
    have : (0 : UInt64).toNat = 0 := rfl
    rw [this, Nat.zero_testBit] at e2
    exact absurd e2 (by decide)
def Re (d : Nat → Nat) (t p : Nat) : Nat → Nat → Prop
  | 0, x => x = p
  | c + 1, x => Re d t p c x ∨ ∃ s, s < t ∧ Re d t p c s ∧ ∃ y, s < y ∧ y ≤ s + 6 ∧ y < t ∧ d y = x
variable {d : Nat → Nat}
theorem Re_lt (hp : p < t) (hd : ∀ y, y < t → d y < t) : ∀ c x, Re d t p c x → x < t
  | 0, x, h => by rw [show x = p from h]; exact hp
  | c + 1, x, h => by
    rcases h with h | ⟨s, _, _, y, _, _, h1, h2⟩
    · exact Re_lt hp hd c x h
    · rw [← h2]; exact hd y h1
theorem Re_mono {x : Nat} : ∀ {a b : Nat}, a ≤ b → Re d t p a x → Re d t p b x
  | a, 0, h, hr => by rw [show a = 0 by omega] at hr; exact hr
  | a, b + 1, h, hr => by
    by_cases e : a = b + 1
    · rw [← e]; exact hr
    · exact Or.inl (Re_mono (b := b) (by omega) hr)
theorem Re_fix {c : Nat} (h : ∀ x, Re d t p (c + 1) x → Re d t p c x) : ∀ j x, Re d t p (c + j) x → Re d t p c x
  | 0, x, hr => hr
  | j + 1, x, hr => by
    have hr : Re d t p (c + j) x ∨ ∃ s, s < t ∧ Re d t p (c + j) s ∧ ∃ y, s < y ∧ y ≤ s + 6 ∧ y < t ∧ d y = x := hr
    rcases hr with hr | ⟨s, h1, h2, h3⟩
    · exact Re_fix h j x hr
    · exact h x (Or.inr ⟨s, h1, Re_fix h j s h2, h3⟩)
abbrev Hit (d : Nat → Nat) (t p c : Nat) : Prop := ∃ x, x < t ∧ t ≤ x + 6 ∧ Re d t p c x
theorem sRF_iff {D : Nat → Int32} (a : Nat) (hD : ∀ y, y < t → D y = nI (d y) ∧ d y < 60) {x : Nat} (hx : x < 64) : ∀ s, s ≤ t → (lT (sRF D a s) x ↔ ∃ y, a < y ∧ y < s ∧ d y = x)
  | 0, _ => by
    rw [sRF]
    exact ⟨fun q => absurd q (lT_0 hx), fun ⟨y, _, h, _⟩ => absurd h (by omega)⟩
  | s + 1, hs => by
    rw [sRF]
    by_cases e : a < s
    · rw [if_pos e, lT_or _ _ hx, sRF_iff a hD hx s (by omega), (hD s (by omega)).1, lT_B (hD s (by omega)).2 hx]
      constructor
      · rintro (⟨y, h1, h2, h3⟩ | h)
        · exact ⟨y, h1, by omega, h3⟩
        · exact ⟨s, e, by omega, h.symm⟩
      · rintro ⟨y, h1, h2, h3⟩
        by_cases ey : y = s
        · subst ey; exact Or.inr h3.symm
        · exact Or.inl ⟨y, h1, by omega, h3⟩
    · rw [if_neg e]
      exact ⟨fun q => absurd q (lT_0 hx), fun ⟨y, h1, h, _⟩ => absurd h (by omega)⟩
theorem sRM_iff {S : gS} (ht : t ≤ 60) (hD : ∀ y, y < t → gDst S y = nI (d y) ∧ d y < 60) (r : Int64) {x : Nat} (hx : x < 64) : ∀ s, s ≤ t → (lT (sRM S t r s) x ↔ lT r x ∨ ∃ s', s' < s ∧ lT r s' ∧ ∃ y, s' < y ∧ y ≤ s' + 6 ∧ y < t ∧ d y = x)
  | 0, _ => by
    rw [sRM]
    exact ⟨Or.inl, fun q => q.elim id (fun ⟨_, h, _⟩ => absurd h (by omega))⟩
  | s + 1, hs => by
    have ih := sRM_iff ht hD r hx s (by omega)
    rw [sRM]
    by_cases e : lT r s
    · rw [if_pos e, lT_or _ _ hx, ih, sRF_iff s hD hx (min (s + 7) t) (by omega)]
      constructor
      · rintro ((q | ⟨s', h1, h2⟩) | ⟨y, h1, h2, h3⟩)
        · exact Or.inl q
        · exact Or.inr ⟨s', by omega, h2⟩
        · exact Or.inr ⟨s, by omega, e, y, h1, by omega, by omega, h3⟩
      · rintro (q | ⟨s', h1, h2, y, h3, h4, h5, h6⟩)
        · exact Or.inl (Or.inl q)
        · by_cases es : s' = s
          · subst es; exact Or.inr ⟨y, h3, by omega, h6⟩
          · exact Or.inl (Or.inr ⟨s', by omega, h2, y, h3, h4, h5, h6⟩)
    · rw [if_neg e, ih]
      constructor
      · rintro (q | ⟨s', h1, h2⟩)
        · exact Or.inl q
        · exact Or.inr ⟨s', by omega, h2⟩
      · rintro (q | ⟨s', h1, h2, h3⟩)
        · exact Or.inl q
        · by_cases es : s' = s
          · subst es; exact absurd h2 e
          · exact Or.inr ⟨s', by omega, h2, h3⟩
theorem sFew_at {S : gS} {c0 : Nat} (ht : 10 ≤ t ∧ t ≤ 60) (hp : p < t) (hd : ∀ y, y < t → d y < t) (hD : ∀ y, y < t → gDst S y = nI (d y)) (h0 : Hit d t p c0) (h1 : ∀ e, e < c0 → ¬ Hit d t p e) : ∀ (u c : Nat) (r : Int64), (∀ x, x < 64 → (lT r x ↔ Re d t p c x)) → c ≤ c0 → c0 < c + u → sFew S t u (c + 1) r = nI (c0 + 1)
  | 0, c, r, _, h2, h3 => absurd h3 (by omega)
  | u + 1, c, r, hr, h2, h3 => by
    have hT : lTop r t ↔ Hit d t p c := by
      rw [lTop_iff r ht]
      constructor
      · rintro ⟨s, q1, q2, q3⟩
        have q4 := (hr s q2).mp q3
        exact ⟨s, Re_lt hp hd c s q4, q1, q4⟩
      · rintro ⟨s, q1, q2, q3⟩
        exact ⟨s, q2, by omega, (hr s (by omega)).mpr q3⟩
    rw [sFew]
    by_cases e : c = c0
    · subst e
      rw [if_pos (hT.mpr h0)]
    · rw [if_neg (fun q => h1 c (by omega) (hT.mp q))]
      refine sFew_at ht hp hd hD h0 h1 u (c + 1) _ (fun x hx => ?_) (by omega) (by omega)
      rw [sRM_iff ht.2 (fun y hy => ⟨hD y hy, by have := hd y hy; omega⟩) r hx t (Nat.le_refl _), hr x hx]
      constructor
      · rintro (q | ⟨s, q1, q2, q3⟩)
        · exact Or.inl q
        · exact Or.inr ⟨s, q1, (hr s (by omega)).mp q2, q3⟩
      · rintro (q | ⟨s, q1, q2, q3⟩)
        · exact Or.inl q
        · exact Or.inr ⟨s, q1, (hr s (by omega)).mpr q2, q3⟩
theorem sFew_no {S : gS} (ht : 10 ≤ t ∧ t ≤ 60) (hp : p < t) (hd : ∀ y, y < t → d y < t) (hD : ∀ y, y < t → gDst S y = nI (d y)) (h1 : ∀ e, ¬ Hit d t p e) : ∀ (u c : Nat) (r : Int64), (∀ x, x < 64 → (lT r x ↔ Re d t p c x)) → sFew S t u (c + 1) r = -6
  | 0, c, r, _ => rfl
  | u + 1, c, r, hr => by
    have hT : lTop r t → Hit d t p c := by
      rw [lTop_iff r ht]
      rintro ⟨s, q1, q2, q3⟩
      have q4 := (hr s q2).mp q3
      exact ⟨s, Re_lt hp hd c s q4, q1, q4⟩
    rw [sFew, if_neg (fun q => h1 c (hT q))]
    refine sFew_no ht hp hd hD h1 u (c + 1) _ (fun x hx => ?_)
    rw [sRM_iff ht.2 (fun y hy => ⟨hD y hy, by have := hd y hy; omega⟩) r hx t (Nat.le_refl _), hr x hx]
    constructor
    · rintro (q | ⟨s, q1, q2, q3⟩)
      · exact Or.inl q
      · exact Or.inr ⟨s, q1, (hr s (by omega)).mp q2, q3⟩
    · rintro (q | ⟨s, q1, q2, q3⟩)
      · exact Or.inl q
      · exact Or.inr ⟨s, q1, (hr s (by omega)).mpr q2, q3⟩
theorem lst_of {P : Nat → Prop} : ∀ n, P n → ∃ m, P m ∧ ∀ e, e < m → ¬ P e := by
  have key : ∀ n, (∃ m, m ≤ n ∧ P m) → ∃ m, P m ∧ ∀ e, e < m → ¬ P e := by
    intro n
    induction n with
    | zero =>
      rintro ⟨m, h1, h2⟩
      have : m = 0 := by omega
      subst this
      exact ⟨0, h2, fun e he => absurd he (by omega)⟩
    | succ n ih =>
      rintro ⟨m, h1, h2⟩
      by_cases e : ∃ m, m ≤ n ∧ P m
      · exact ih e
      · exact ⟨m, h2, fun q hq hP => e ⟨q, by omega, hP⟩⟩
  exact fun n h => key n ⟨n, Nat.le_refl _, h⟩
end CO2
