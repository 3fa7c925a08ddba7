/-! the class lifts those passed -/
section RE
variable {z f : Nat → Int32} {t n k m c x i j a : Nat} {v w u : Int32} {S T : gS}
theorem gLf_pl (h : i ≠ c) : g_pl (gLf T m c) i = g_pl T i := by
  rw [gLf_nf]
  exact upd_ne h
theorem gLiftTo_gLs (hm : g_mv T = nI m) (hm6 : m < 6) : ∀ i, gLiftTo T u i = gLs T m (fun c => g_psd T c u) i ∧ (∀ c, i ≤ c → g_pl (gLiftTo T u i) c = g_pl T c) ∧ g_pl (gLiftTo T u i) m = g_pl T m
  | 0 => ⟨rfl, fun _ _ => rfl, rfl⟩
  | i + 1 => by
    obtain ⟨h1, h2, h3⟩ := gLiftTo_gLs hm hm6 i
    have em : (nI m).toNatClampNeg = m := nI_clamp (by omega)
    obtain ⟨f1, f2, f3, f4⟩ := gLiftTo_fix T u i
    have fm : g_mv (gLiftTo T u i) = nI m := (congrArg (fun q : Int32 × Int32 × Int32 × Int32 × Int32 => q.2.2.1) f4).trans hm
    have ft : g_top (gLiftTo T u i) = g_top T := congrArg (fun q : Int32 × Int32 × Int32 × Int32 × Int32 => q.1) f4
    have hp : g_psd (gLiftTo T u i) i u ↔ g_psd T i u := by
      unfold g_psd g_isLa
      rw [fm, hm, em, h3, h2 i (Nat.le_refl _), ft, f2]
    rw [gLiftTo, gLs, ← h1]
    by_cases e : g_psd T i u
    · rw [if_pos (hp.mpr e), if_pos e, fm, em]
      have hne : ∀ c, c ≠ i → g_pl (gLf (gLiftTo T u i) m i) c = g_pl (gLiftTo T u i) c := fun c hc => gLf_pl hc
      refine ⟨rfl, fun c hc => (hne c (by omega)).trans (h2 c (by omega)), (hne m (fun q => ?_)).trans h3⟩
      subst q
      have := e.1
      rw [hm, em] at this
      omega
    · rw [if_neg (fun q => e (hp.mp q)), if_neg e]
      exact ⟨rfl, fun c hc => h2 c (by omega), h3⟩
end RE
