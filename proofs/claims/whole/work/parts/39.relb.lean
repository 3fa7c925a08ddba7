/-! the class's lifts: their order does not matter -/
section RB
variable {z f : Nat → Int32} {t n k m c x p i j : Nat} {v w : Int32} {S T : gS}
def gV (le : Nat → Int32) (top x : Int32) : Int32 := if 0 ≤ x.toInt ∧ x.toInt < top.toInt then (if (le x.toNatClampNeg).toInt = -6 then x else le x.toNatClampNeg) else 0
def gVa (top x : Int32) : Int32 := if 0 ≤ x.toInt ∧ x.toInt < top.toInt then 0 else 1
def gVb (le : Nat → Int32) (top x : Int32) : Int32 := if 0 ≤ x.toInt ∧ x.toInt < top.toInt then (if (le x.toNatClampNeg).toInt = -6 then 0 else 1) else 0
theorem gCome_nf (T : gS) (c : Nat) (x : Int32) : gCome T c x = (T.1, T.2.1, upd (g_pl T) c (gV (g_le T) (g_top T) x), upd (g_tp T) c (g_tp T c + gVa (g_top T) x), g_rs T, g_tl T, g_lm T, upd (g_sl T) c (g_sl T c + gVb (g_le T) (g_top T) x), T.2.2.2.2.2.2.2.2) := by
  unfold gCome gV gVa gVb g_below
  by_cases e : 0 ≤ x.toInt ∧ x.toInt < (g_top T).toInt
  · rw [if_pos e, if_pos e, if_pos e, if_pos e, if_pos e, if_pos e, Int32.add_zero, upd_self]
    by_cases e2 : (g_le T x.toNatClampNeg).toInt = -6
    · rw [if_pos e2, if_pos e2, if_pos e2, if_pos e2, Int32.add_zero, upd_self]
    · rw [if_neg e2, if_neg e2, if_neg e2, if_neg e2]
  · rw [if_neg e, if_neg e, if_neg e, if_neg e, if_neg e, if_neg e, Int32.add_zero, upd_self]
theorem gLf_nf (T : gS) (m c : Nat) : gLf T m c = (T.1, T.2.1, upd (g_pl T) c (gV (g_le T) (g_top T) (g_pl T c + 1)), upd (g_tp T) c (g_tp T c + gVa (g_top T) (g_pl T c + 1)), g_rs T, upd (g_tl T) c (g_tl T c + 1), upd (g_lm T) m (g_lm T m + 1), upd (g_sl T) c (g_sl T c + gVb (g_le T) (g_top T) (g_pl T c + 1)), T.2.2.2.2.2.2.2.2) := by
  unfold gLf
  rw [gCome_nf]
theorem upd2 {f : Nat → Int32} {a b : Int32} (h : i ≠ c) : upd (upd f c a) i b = upd (upd f i b) c a := upd_comm (fun e => h e.symm)
theorem gLf_comm (h : i ≠ c) : gLf (gLf T m c) m i = gLf (gLf T m i) m c := by
  have h' : c ≠ i := fun e => h e.symm
  rw [gLf_nf T m c, gLf_nf T m i, gLf_nf, gLf_nf]
  show (T.1, T.2.1, upd (upd (g_pl T) c _) i (gV (g_le T) (g_top T) (upd (g_pl T) c _ i + 1)), upd (upd (g_tp T) c _) i (upd (g_tp T) c _ i + gVa (g_top T) (upd (g_pl T) c _ i + 1)), g_rs T, upd (upd (g_tl T) c _) i (upd (g_tl T) c _ i + 1), upd (upd (g_lm T) m _) m (upd (g_lm T) m _ m + 1), upd (upd (g_sl T) c _) i (upd (g_sl T) c _ i + gVb (g_le T) (g_top T) (upd (g_pl T) c _ i + 1)), T.2.2.2.2.2.2.2.2) = (T.1, T.2.1, upd (upd (g_pl T) i _) c (gV (g_le T) (g_top T) (upd (g_pl T) i _ c + 1)), upd (upd (g_tp T) i _) c (upd (g_tp T) i _ c + gVa (g_top T) (upd (g_pl T) i _ c + 1)), g_rs T, upd (upd (g_tl T) i _) c (upd (g_tl T) i _ c + 1), upd (upd (g_lm T) m _) m (upd (g_lm T) m _ m + 1), upd (upd (g_sl T) i _) c (upd (g_sl T) i _ c + gVb (g_le T) (g_top T) (upd (g_pl T) i _ c + 1)), T.2.2.2.2.2.2.2.2)
  simp only [upd_ne h, upd_ne h']
  rw [upd2 (f := g_pl T) h, upd2 (f := g_tp T) h, upd2 (f := g_tl T) h, upd2 (f := g_sl T) h]
/-- those so are lifted, in their order -/
def gLs (T : gS) (m : Nat) (p : Nat → Prop) [DecidablePred p] : Nat → gS
  | 0 => T
  | i + 1 => if p i then gLf (gLs T m p i) m i else gLs T m p i
theorem gLs_congr {p q : Nat → Prop} [DecidablePred p] [DecidablePred q] : ∀ n, (∀ i, i < n → (p i ↔ q i)) → gLs T m p n = gLs T m q n
  | 0, _ => rfl
  | n + 1, h => by
    rw [gLs, gLs, gLs_congr n (fun i hi => h i (by omega))]
    by_cases e : p n
    · rw [if_pos e, if_pos ((h n (by omega)).mp e)]
    · rw [if_neg e, if_neg (fun a => e ((h n (by omega)).mpr a))]
theorem gLs_pull {p : Nat → Prop} [DecidablePred p] : ∀ n, n ≤ c → gLs (gLf T m c) m p n = gLf (gLs T m p n) m c
  | 0, _ => rfl
  | n + 1, h => by
    rw [gLs, gLs, gLs_pull n (by omega)]
    by_cases e : p n
    · rw [if_pos e, if_pos e]
      exact gLf_comm (by omega)
    · rw [if_neg e, if_neg e]
/-- one of them may go first -/
theorem gLs_first {p : Nat → Prop} [DecidablePred p] (hc : p c) : ∀ n, c < n → gLs (gLf T m c) m (fun i => i ≠ c ∧ p i) n = gLs T m p n
  | 0, h => absurd h (by omega)
  | n + 1, h => by
    rw [gLs, gLs]
    by_cases e : n = c
    · subst e
      rw [if_neg (fun a => a.1 rfl), if_pos hc, gLs_pull n (Nat.le_refl _)]
      exact congrArg (fun q => gLf q m n) (gLs_congr n (fun i hi => ⟨fun a => a.2, fun a => ⟨by omega, a⟩⟩))
    · rw [gLs_first hc n (by omega)]
      by_cases e2 : p n
      · rw [if_pos ⟨e, e2⟩, if_pos e2]
      · rw [if_neg (fun a => e2 a.2), if_neg e2]
end RB
