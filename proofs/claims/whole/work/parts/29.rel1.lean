/-! class and reference: counting -/
section R1
variable {z f : Nat → Int32} {t n k m c : Nat} {S : gS}
def cN (p : Nat → Prop) [DecidablePred p] : Nat → Nat
  | 0 => 0
  | c + 1 => if p c then cN p c + 1 else cN p c
theorem sCn_nI (p : Nat → Prop) [DecidablePred p] : ∀ n, sCn p n = nI (cN p n)
  | 0 => rfl
  | n + 1 => by
    rw [sCn, cN, sCn_nI p n]
    split
    · exact nI_1 _
    · rfl
theorem cN_le (p : Nat → Prop) [DecidablePred p] : ∀ n, cN p n ≤ n
  | 0 => Nat.le_refl _
  | n + 1 => by
    have := cN_le p n
    rw [cN]
    split <;> omega
theorem cN_congr {p q : Nat → Prop} [DecidablePred p] [DecidablePred q] : ∀ n, (∀ c, c < n → (p c ↔ q c)) → cN p n = cN q n
  | 0, _ => rfl
  | n + 1, h => by
    rw [cN, cN, cN_congr n (fun c hc => h c (by omega))]
    by_cases e : p n
    · rw [if_pos e, if_pos ((h n (by omega)).mp e)]
    · rw [if_neg e, if_neg (fun x => e ((h n (by omega)).mpr x))]
theorem cN_all {p : Nat → Prop} [DecidablePred p] : ∀ n, (∀ c, c < n → p c) → cN p n = n
  | 0, _ => rfl
  | n + 1, h => by rw [cN, if_pos (h n (by omega)), cN_all n (fun c hc => h c (by omega))]
theorem cN_none {p : Nat → Prop} [DecidablePred p] : ∀ n, (∀ c, c < n → ¬ p c) → cN p n = 0
  | 0, _ => rfl
  | n + 1, h => by rw [cN, if_neg (h n (by omega)), cN_none n (fun c hc => h c (by omega))]
theorem cN_pos {p : Nat → Prop} [DecidablePred p] : ∀ n, 0 < cN p n → ∃ c, c < n ∧ p c
  | 0, h => (Nat.lt_irrefl 0 h).elim
  | n + 1, h => by
    by_cases e : p n
    · exact ⟨n, by omega, e⟩
    · rw [cN, if_neg e] at h
      obtain ⟨c, h1, h2⟩ := cN_pos n h
      exact ⟨c, by omega, h2⟩
/-- at one place another value -/
theorem cN_upd (p : Int32 → Prop) [DecidablePred p] (f : Nat → Int32) (u : Nat) (v : Int32) : ∀ n, u < n → cN (fun s => p (upd f u v s)) n + (if p (f u) then 1 else 0) = cN (fun s => p (f s)) n + (if p v then 1 else 0)
  | 0, h => absurd h (by omega)
  | n + 1, h => by
    rw [cN, cN]
    by_cases e : u = n
    · subst e
      have e1 : upd f u v u = v := upd_same
      have e2 : cN (fun s => p (upd f u v s)) u = cN (fun s => p (f s)) u := cN_congr u (fun c hc => by rw [show upd f u v c = f c from upd_ne (by omega)])
      rw [e1, e2]
      by_cases a : p v <;> by_cases b : p (f u)
      · rw [if_pos a, if_pos b, if_pos b, if_pos a]
      · rw [if_pos a, if_neg b, if_neg b, if_pos a]
      · rw [if_neg a, if_pos b, if_pos b, if_neg a]
      · rw [if_neg a, if_neg b, if_neg b, if_neg a]
    · have e1 : upd f u v n = f n := upd_ne (fun x => e x.symm)
      have ih := cN_upd p f u v n (by omega)
      rw [e1]
      by_cases a : p (f n)
      · rw [if_pos a, if_pos a]; omega
      · rw [if_neg a, if_neg a]; exact ih
/-- carpets: pairs from 44 on, and the lower end of each step -/
def Cp (z le : Nat → Int32) (t k : Nat) : Prop := (∀ j, j < k → ∃ u l : Nat, z (44 + 2 * j) = nI u ∧ z (45 + 2 * j) = nI l ∧ l < u ∧ u < t ∧ le u = nI l) ∧ (∀ i j, i < k → j < k → i ≠ j → z (44 + 2 * i) ≠ z (44 + 2 * j)) ∧ ∀ s, s < 60 → (∀ j, j < k → z (44 + 2 * j) ≠ nI s) → le s = -6
theorem nI_inj {a b : Nat} (ha : a < 2147483648) (hb : b < 2147483648) (h : nI a = nI b) : a = b := by
  have e := congrArg Int32.toInt h
  rw [nI_toInt ha, nI_toInt hb] at e
  omega
theorem nI_ne6 {a : Nat} (ha : a < 2147483648) : nI a ≠ -6 := fun h => by
  have e := congrArg Int32.toInt h
  rw [nI_toInt ha, show (-6 : Int32).toInt = -6 by decide] at e
  omega
theorem Cp_pop (ht : t ≤ 60) {le : Nat → Int32} (h : Cp z le t (k + 1)) {u : Nat} (hu : z (44 + 2 * k) = nI u) (hut : u < t) : Cp z (upd le u (-6)) t k := by
  obtain ⟨h1, h2, h3⟩ := h
  refine ⟨fun j hj => ?_, fun i j hi hj => h2 i j (by omega) (by omega), fun s hs hh => ?_⟩
  · obtain ⟨a, l, b1, b2, b3, b4, b5⟩ := h1 j (by omega)
    refine ⟨a, l, b1, b2, b3, b4, ?_⟩
    rw [upd_ne (fun e => h2 j k (by omega) (by omega) (by omega) (by rw [b1, hu, e]))]
    exact b5
  · by_cases e : s = u
    · rw [e]; exact upd_same
    · rw [upd_ne e]
      refine h3 s hs (fun j hj => ?_)
      by_cases ej : j = k
      · subst ej
        rw [hu]
        exact fun x => e (nI_inj (by omega) (by omega) x).symm
      · exact hh j (by omega)
/-- what is said of lower ends is so of as many steps as of carpets -/
theorem Cp_cnt (p : Int32 → Prop) [DecidablePred p] (hp : ¬ p (-6)) (ht : t ≤ 60) : ∀ (k : Nat) (le : Nat → Int32), Cp z le t k → cN (fun j => p (z (45 + 2 * j))) k = cN (fun s => p (le s)) t := by
  intro k
  induction k with
  | zero =>
    intro le h
    rw [cN, cN_none t (fun s hs => by rw [h.2.2 s (by omega) (fun j hj => absurd hj (by omega))]; exact hp)]
  | succ k ih =>
    intro le h
    obtain ⟨u, l, b1, b2, b3, b4, b5⟩ := h.1 k (by omega)
    have e := ih _ (Cp_pop ht h b1 b4)
    have e2 := cN_upd p le u (-6) t b4
    rw [if_neg hp, b5] at e2
    rw [cN, e, b2]
    by_cases a : p (nI l)
    · rw [if_pos a] at e2 ⊢; omega
    · rw [if_neg a] at e2 ⊢; omega
theorem Cp_from (ht : t ≤ 60) (hk6 : k ≤ 6) {le : Nat → Int32} (h : Cp z le t k) {s : Nat} (hs : s < 60) : ((mCF z (nI s) k).toInt = -6 ∧ le s = -6) ∨ ((mCF z (nI s) k).toInt ≠ -6 ∧ z (45 + 2 * (mCF z (nI s) k).toNatClampNeg) = le s ∧ (mCF z (nI s) k).toNatClampNeg < k ∧ s < t ∧ ∃ l, l < s ∧ le s = nI l) := by
  obtain ⟨h1, h2, h3⟩ := h
  rcases mCF_cases z (nI s) k with ⟨e, hn⟩ | ⟨j, hj, e, he⟩
  · refine Or.inl ⟨by rw [e]; decide, h3 s hs (fun j hj x => hn j hj (congrArg Int32.toInt x))⟩
  · obtain ⟨u, l, b1, b2, b3, b4, b5⟩ := h1 j hj
    have hus : u = s := by
      rw [b1] at he
      exact nI_inj (by omega) (by omega) (Int32.toInt_inj.mp he)
    subst hus
    have hk : j < 2147483648 := by omega
    refine Or.inr ⟨?_, ?_, ?_, b4, l, b3, b5⟩
    · rw [e]; exact fun x => nI_ne6 hk (Int32.toInt_inj.mp (x.trans (by decide)))
    · rw [e, nI_clamp hk, b2, b5]
    · rw [e, nI_clamp hk]; exact hj
/-- a step past the top begins no carpet -/
theorem Cp_out (ht : t ≤ 60) {le : Nat → Int32} (h : Cp z le t k) {x : Int32} (hx : ¬ (0 ≤ x.toInt ∧ x.toInt < t)) : mCF z x k = -6 := by
  rcases mCF_cases z x k with ⟨e, _⟩ | ⟨j, hj, _, he⟩
  · exact e
  · obtain ⟨u, l, b1, b2, b3, b4, b5⟩ := h.1 j hj
    rw [b1, nI_toInt (by omega)] at he
    exact absurd ⟨by omega, by omega⟩ hx
/-- the relation of the states -/
def Rl (S : gS) (z : Nat → Int32) (t n k m : Nat) : Prop :=
  (z 0 = nI t) ∧
  (g_top S = nI t) ∧
  (10 ≤ t) ∧
  (t ≤ 60) ∧
  (z 1 = nI n) ∧
  (g_cl S = nI n) ∧
  (n ≤ 6) ∧
  (z 2 = nI m) ∧
  (g_mv S = nI m) ∧
  (m < n ∨ n = 0 ∧ m = 0) ∧
  (z 3 = nI k) ∧
  (k ≤ 6) ∧
  (z 4 = g_ro S) ∧
  (z 7 = g_lo S) ∧
  (z 5 = sSm (g_tl S) 6) ∧
  (z 6 = sSm (g_sl S) 6) ∧
  (∀ c, c < 6 → z (8 + 6 * c) = g_pl S c) ∧
  (∀ c, c < 6 → z (8 + 6 * c + 1) = g_tp S c) ∧
  (∀ c, c < 6 → z (8 + 6 * c + 2) = g_rs S c) ∧
  (∀ c, c < 6 → z (8 + 6 * c + 3) = g_tl S c) ∧
  (∀ c, c < 6 → z (8 + 6 * c + 4) = g_lm S c) ∧
  (∀ c, c < 6 → z (8 + 6 * c + 5) = g_sl S c) ∧
  (∀ c, c < 6 → n ≤ c → g_pl S c = 0 ∧ g_tp S c = 0 ∧ g_rs S c = 0 ∧ g_tl S c = 0 ∧ g_lm S c = 0 ∧ g_sl S c = 0) ∧
  (∀ c, c < 6 → ∃ p : Nat, p < t ∧ g_pl S c = nI p) ∧
  (∀ c, c < 6 → g_rs S c = 0 ∨ g_rs S c = 1) ∧
  (Cp z (g_le S) t k) ∧
  (∀ s, s < 60 → z (57 + s) = g_la S s) ∧
  (∀ s, s ≤ 60 → z (57 + s) = 0 ∨ z (57 + s) = 1) ∧
  (∀ s, t ≤ s → s ≤ 60 → z (57 + s) = 0)
theorem Rl.z0 (h : Rl S z t n k m) : z 0 = nI t := h.1
theorem Rl.gt (h : Rl S z t n k m) : g_top S = nI t := h.2.1
theorem Rl.t10 (h : Rl S z t n k m) : 10 ≤ t := h.2.2.1
theorem Rl.t60 (h : Rl S z t n k m) : t ≤ 60 := h.2.2.2.1
theorem Rl.z1 (h : Rl S z t n k m) : z 1 = nI n := h.2.2.2.2.1
theorem Rl.gn (h : Rl S z t n k m) : g_cl S = nI n := h.2.2.2.2.2.1
theorem Rl.n6 (h : Rl S z t n k m) : n ≤ 6 := h.2.2.2.2.2.2.1
theorem Rl.z2 (h : Rl S z t n k m) : z 2 = nI m := h.2.2.2.2.2.2.2.1
theorem Rl.gm (h : Rl S z t n k m) : g_mv S = nI m := h.2.2.2.2.2.2.2.2.1
theorem Rl.mn (h : Rl S z t n k m) : m < n ∨ n = 0 ∧ m = 0 := h.2.2.2.2.2.2.2.2.2.1
theorem Rl.z3 (h : Rl S z t n k m) : z 3 = nI k := h.2.2.2.2.2.2.2.2.2.2.1
theorem Rl.k6 (h : Rl S z t n k m) : k ≤ 6 := h.2.2.2.2.2.2.2.2.2.2.2.1
theorem Rl.z4 (h : Rl S z t n k m) : z 4 = g_ro S := h.2.2.2.2.2.2.2.2.2.2.2.2.1
theorem Rl.z7 (h : Rl S z t n k m) : z 7 = g_lo S := h.2.2.2.2.2.2.2.2.2.2.2.2.2.1
theorem Rl.z5 (h : Rl S z t n k m) : z 5 = sSm (g_tl S) 6 := h.2.2.2.2.2.2.2.2.2.2.2.2.2.2.1
theorem Rl.z6 (h : Rl S z t n k m) : z 6 = sSm (g_sl S) 6 := h.2.2.2.2.2.2.2.2.2.2.2.2.2.2.2.1
theorem Rl.pl (h : Rl S z t n k m) : ∀ c, c < 6 → z (8 + 6 * c) = g_pl S c := h.2.2.2.2.2.2.2.2.2.2.2.2.2.2.2.2.1
theorem Rl.tp (h : Rl S z t n k m) : ∀ c, c < 6 → z (8 + 6 * c + 1) = g_tp S c := h.2.2.2.2.2.2.2.2.2.2.2.2.2.2.2.2.2.1
theorem Rl.rs (h : Rl S z t n k m) : ∀ c, c < 6 → z (8 + 6 * c + 2) = g_rs S c := h.2.2.2.2.2.2.2.2.2.2.2.2.2.2.2.2.2.2.1
theorem Rl.tl (h : Rl S z t n k m) : ∀ c, c < 6 → z (8 + 6 * c + 3) = g_tl S c := h.2.2.2.2.2.2.2.2.2.2.2.2.2.2.2.2.2.2.2.1
theorem Rl.lm (h : Rl S z t n k m) : ∀ c, c < 6 → z (8 + 6 * c + 4) = g_lm S c := h.2.2.2.2.2.2.2.2.2.2.2.2.2.2.2.2.2.2.2.2.1
theorem Rl.sl (h : Rl S z t n k m) : ∀ c, c < 6 → z (8 + 6 * c + 5) = g_sl S c := h.2.2.2.2.2.2.2.2.2.2.2.2.2.2.2.2.2.2.2.2.2.1
theorem Rl.out (h : Rl S z t n k m) : ∀ c, c < 6 → n ≤ c → g_pl S c = 0 ∧ g_tp S c = 0 ∧ g_rs S c = 0 ∧ g_tl S c = 0 ∧ g_lm S c = 0 ∧ g_sl S c = 0 := h.2.2.2.2.2.2.2.2.2.2.2.2.2.2.2.2.2.2.2.2.2.2.1
theorem Rl.plt (h : Rl S z t n k m) : ∀ c, c < 6 → ∃ p : Nat, p < t ∧ g_pl S c = nI p := h.2.2.2.2.2.2.2.2.2.2.2.2.2.2.2.2.2.2.2.2.2.2.2.1
theorem Rl.rs01 (h : Rl S z t n k m) : ∀ c, c < 6 → g_rs S c = 0 ∨ g_rs S c = 1 := h.2.2.2.2.2.2.2.2.2.2.2.2.2.2.2.2.2.2.2.2.2.2.2.2.1
theorem Rl.cp (h : Rl S z t n k m) : Cp z (g_le S) t k := h.2.2.2.2.2.2.2.2.2.2.2.2.2.2.2.2.2.2.2.2.2.2.2.2.2.1
theorem Rl.la (h : Rl S z t n k m) : ∀ s, s < 60 → z (57 + s) = g_la S s := h.2.2.2.2.2.2.2.2.2.2.2.2.2.2.2.2.2.2.2.2.2.2.2.2.2.2.1
theorem Rl.la01 (h : Rl S z t n k m) : ∀ s, s ≤ 60 → z (57 + s) = 0 ∨ z (57 + s) = 1 := h.2.2.2.2.2.2.2.2.2.2.2.2.2.2.2.2.2.2.2.2.2.2.2.2.2.2.2.1
theorem Rl.lat (h : Rl S z t n k m) : ∀ s, t ≤ s → s ≤ 60 → z (57 + s) = 0 := h.2.2.2.2.2.2.2.2.2.2.2.2.2.2.2.2.2.2.2.2.2.2.2.2.2.2.2.2
theorem Rl_0 : Rl (gI 60) (m_z mS0) 30 0 0 0 := by
  have e : ∀ i, i ≠ 0 → m_z mS0 i = 0 := fun i hi => upd_ne (f := fun _ => 0) (i := 0) hi
  unfold Rl
  refine ⟨rfl, rfl, by decide, by decide, rfl, rfl, by decide, rfl, rfl, Or.inr ⟨rfl, rfl⟩, rfl, by decide, rfl, rfl, rfl, rfl, ?_, ?_, ?_, ?_, ?_, ?_, ?_, ?_, ?_, ⟨fun j hj => absurd hj (by omega), fun i j hi => absurd hi (by omega), fun s hs _ => if_pos hs⟩, ?_, ?_, ?_⟩
  · exact fun c hc => e _ (by omega)
  · exact fun c hc => e _ (by omega)
  · exact fun c hc => e _ (by omega)
  · exact fun c hc => e _ (by omega)
  · exact fun c hc => e _ (by omega)
  · exact fun c hc => e _ (by omega)
  · exact fun c hc _ => ⟨rfl, rfl, rfl, rfl, rfl, rfl⟩
  · exact fun c hc => ⟨0, by decide, rfl⟩
  · exact fun c hc => Or.inl rfl
  · exact fun s hs => e _ (by omega)
  · exact fun s hs => Or.inl (e _ (by omega))
  · exact fun s h1 hs => e _ (by omega)
end R1
