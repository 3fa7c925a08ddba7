/-! the state of a Game: le la pl tp rs tl lm sl top climbers mover rolls leftOut -/
abbrev gS : Type := (Nat → Int32) × (Nat → Int32) × (Nat → Int32) × (Nat → Int32) × (Nat → Int32) × (Nat → Int32) × (Nat → Int32) × (Nat → Int32) × Int32 × Int32 × Int32 × Int32 × Int32
abbrev g_le (S : gS) : Nat → Int32 := S.1
abbrev g_la (S : gS) : Nat → Int32 := S.2.1
abbrev g_pl (S : gS) : Nat → Int32 := S.2.2.1
abbrev g_tp (S : gS) : Nat → Int32 := S.2.2.2.1
abbrev g_rs (S : gS) : Nat → Int32 := S.2.2.2.2.1
abbrev g_tl (S : gS) : Nat → Int32 := S.2.2.2.2.2.1
abbrev g_lm (S : gS) : Nat → Int32 := S.2.2.2.2.2.2.1
abbrev g_sl (S : gS) : Nat → Int32 := S.2.2.2.2.2.2.2.1
abbrev g_top (S : gS) : Int32 := S.2.2.2.2.2.2.2.2.1
abbrev g_cl (S : gS) : Int32 := S.2.2.2.2.2.2.2.2.2.1
abbrev g_mv (S : gS) : Int32 := S.2.2.2.2.2.2.2.2.2.2.1
abbrev g_ro (S : gS) : Int32 := S.2.2.2.2.2.2.2.2.2.2.2.1
abbrev g_lo (S : gS) : Int32 := S.2.2.2.2.2.2.2.2.2.2.2.2
abbrev g_o (g : Nat) (S : gS) : va_E := .inr (0, [.ref (g + 1), .ref (g + 2), .ref (g + 3), .ref (g + 4), .ref (g + 5), .ref (g + 6), .ref (g + 7), .ref (g + 8), .int (g_top S), .int (g_cl S), .int (g_mv S), .int (g_ro S), .int (g_lo S)])
abbrev g_a (t n : Nat) (f : Nat → Int32) : va_E := .inl (t, n, .inl f)
def gCells (g : Nat) (S : gS) : List va_E := [g_o g S, g_a 0 60 (g_le S), g_a 1 60 (g_la S), g_a 0 6 (g_pl S), g_a 0 6 (g_tp S), g_a 0 6 (g_rs S), g_a 0 6 (g_tl S), g_a 0 6 (g_lm S), g_a 0 6 (g_sl S)]
def gAt (mem : xM) (g : Nat) (S : gS) : Prop := mem[g]? = some (g_o g S) ∧ mem[g + 1]? = some (g_a 0 60 (g_le S)) ∧ mem[g + 2]? = some (g_a 1 60 (g_la S)) ∧ mem[g + 3]? = some (g_a 0 6 (g_pl S)) ∧ mem[g + 4]? = some (g_a 0 6 (g_tp S)) ∧ mem[g + 5]? = some (g_a 0 6 (g_rs S)) ∧ mem[g + 6]? = some (g_a 0 6 (g_tl S)) ∧ mem[g + 7]? = some (g_a 0 6 (g_lm S)) ∧ mem[g + 8]? = some (g_a 0 6 (g_sl S))
/-- cells from g on written over -/
def x_seg (mem : xM) (g : Nat) (cs : List va_E) : xM := mem.take g ++ (cs ++ mem.drop (g + cs.length))
def gPut (mem : xM) (g : Nat) (S : gS) : xM := x_seg mem g (gCells g S)
theorem x_seg_len {mem : xM} {g : Nat} {cs : List va_E} (h : g + cs.length ≤ mem.length) : (x_seg mem g cs).length = mem.length := by
  simp only [x_seg, List.length_append, List.length_take, List.length_drop]
  omega
theorem x_seg_in {mem : xM} {g i : Nat} {cs : List va_E} (h : g + cs.length ≤ mem.length) (hi : i < cs.length) : (x_seg mem g cs)[g + i]? = cs[i]? := by
  have e : (mem.take g).length = g := by rw [List.length_take]; omega
  rw [x_seg, List.getElem?_append_right (by rw [e]; omega), e, show g + i - g = i by omega, List.getElem?_append_left hi]
theorem x_seg_lo {mem : xM} {g i : Nat} {cs : List va_E} (h : g + cs.length ≤ mem.length) (hi : i < g) : (x_seg mem g cs)[i]? = mem[i]? := by
  have e : (mem.take g).length = g := by rw [List.length_take]; omega
  rw [x_seg, List.getElem?_append_left (by rw [e]; omega), List.getElem?_take, if_pos hi]
theorem x_seg_hi {mem : xM} {g i : Nat} {cs : List va_E} (h : g + cs.length ≤ mem.length) (hi : g + cs.length ≤ i) : (x_seg mem g cs)[i]? = mem[i]? := by
  have e : (mem.take g).length = g := by rw [List.length_take]; omega
  rw [x_seg, List.getElem?_append_right (by rw [e]; omega), e, List.getElem?_append_right (by omega), List.getElem?_drop]
  congr 1
  omega
theorem x_seg_set {mem : xM} {g i : Nat} {cs : List va_E} {c : va_E} (h : g + cs.length ≤ mem.length) (hi : i < cs.length) : (x_seg mem g cs).set (g + i) c = x_seg mem g (cs.set i c) := by
  have e : (mem.take g).length = g := by rw [List.length_take]; omega
  rw [x_seg, List.set_append, if_neg (by rw [e]; omega), e, show g + i - g = i by omega, List.set_append, if_pos hi, x_seg, List.length_set]
theorem x_seg_seg {mem : xM} {g : Nat} {cs ds : List va_E} (h : g + cs.length ≤ mem.length) (hd : ds.length = cs.length) : x_seg (x_seg mem g cs) g ds = x_seg mem g ds := by
  apply List.ext_getElem?
  intro i
  have hl := x_seg_len h
  by_cases h1 : i < g
  · rw [x_seg_lo (by omega) h1, x_seg_lo h h1, x_seg_lo (by omega) h1]
  · by_cases h2 : i < g + ds.length
    · obtain ⟨j, rfl⟩ : ∃ j, i = g + j := ⟨i - g, by omega⟩
      rw [x_seg_in (by omega) (by omega), x_seg_in (by omega) (by omega)]
    · rw [x_seg_hi (by omega) (by omega), x_seg_hi h (by omega), x_seg_hi (by omega) (by omega)]
theorem gAt_len {mem : xM} {g : Nat} {S : gS} (h : gAt mem g S) : g + 9 ≤ mem.length := by
  have := (List.getElem?_eq_some_iff.mp h.2.2.2.2.2.2.2.2).1
  omega
theorem gAt_put {mem : xM} {g : Nat} {S : gS} (h : gAt mem g S) (S' : gS) : gAt (gPut mem g S') g S' := by
  have hl : g + (gCells g S').length ≤ mem.length := gAt_len h
  refine ⟨x_seg_in (i := 0) hl (Nat.le_of_ble_eq_true rfl), x_seg_in (i := 1) hl (Nat.le_of_ble_eq_true rfl), x_seg_in (i := 2) hl (Nat.le_of_ble_eq_true rfl), x_seg_in (i := 3) hl (Nat.le_of_ble_eq_true rfl), x_seg_in (i := 4) hl (Nat.le_of_ble_eq_true rfl), x_seg_in (i := 5) hl (Nat.le_of_ble_eq_true rfl), x_seg_in (i := 6) hl (Nat.le_of_ble_eq_true rfl), x_seg_in (i := 7) hl (Nat.le_of_ble_eq_true rfl), x_seg_in (i := 8) hl (Nat.le_of_ble_eq_true rfl)⟩
theorem gPut_put {mem : xM} {g : Nat} {S : gS} (h : gAt mem g S) (S1 S2 : gS) : gPut (gPut mem g S1) g S2 = gPut mem g S2 := x_seg_seg (gAt_len h) rfl
theorem gPut_len {mem : xM} {g : Nat} {S : gS} (h : gAt mem g S) (S1 : gS) : (gPut mem g S1).length = mem.length := x_seg_len (gAt_len h)
theorem gPut_self {mem : xM} {g : Nat} {S : gS} (h : gAt mem g S) : gPut mem g S = mem := by
  apply List.ext_getElem?
  intro i
  have hl : g + (gCells g S).length ≤ mem.length := gAt_len h
  by_cases h1 : i < g
  · exact x_seg_lo hl h1
  · by_cases h2 : i < g + 9
    · obtain ⟨j, rfl⟩ : ∃ j, i = g + j := ⟨i - g, by omega⟩
      have hj : j < 9 := by omega
      rw [gPut, x_seg_in hl hj]
      obtain ⟨a0, a1, a2, a3, a4, a5, a6, a7, a8⟩ := h
      match j, hj with
      | 0, _ => exact a0.symm
      | 1, _ => exact a1.symm
      | 2, _ => exact a2.symm
      | 3, _ => exact a3.symm
      | 4, _ => exact a4.symm
      | 5, _ => exact a5.symm
      | 6, _ => exact a6.symm
      | 7, _ => exact a7.symm
      | 8, _ => exact a8.symm
    · exact x_seg_hi hl (by show g + 9 ≤ i; omega)
theorem gPut_other {mem : xM} {g i : Nat} {S : gS} (h : gAt mem g S) (S1 : gS) (hi : i < g ∨ g + 9 ≤ i) : (gPut mem g S1)[i]? = mem[i]? := by
  have hl : g + (gCells g S1).length ≤ mem.length := gAt_len h
  rcases hi with hi | hi
  · exact x_seg_lo hl hi
  · exact x_seg_hi hl hi
/-- one cell of a game written: the game with the new state -/
theorem gSet {mem : xM} {g : Nat} {S : gS} (h : gAt mem g S) (S' : gS) (i : Nat) (c : va_E) (hi : i < 9) (he : (gCells g S).set i c = gCells g S') : mem.set (g + i) c = gPut mem g S' := by
  have hl : g + (gCells g S).length ≤ mem.length := gAt_len h
  calc mem.set (g + i) c = (gPut mem g S).set (g + i) c := by rw [gPut_self h]
    _ = x_seg mem g ((gCells g S).set i c) := x_seg_set hl hi
    _ = gPut mem g S' := by rw [he]; rfl
theorem gSet0 {mem : xM} {g : Nat} {S : gS} (h : gAt mem g S) (S' : gS) (c : va_E) (he : (gCells g S).set 0 c = gCells g S') : mem.set g c = gPut mem g S' := gSet h S' 0 c (by decide) he
theorem gSetP {mem : xM} {g : Nat} {S T : gS} {c : va_E} (h : gAt mem g S) (T' : gS) (i : Nat) (hi : i < 9) (he : (gCells g T).set i c = gCells g T') : (gPut mem g T).set (g + i) c = gPut mem g T' := by
  rw [gSet (gAt_put h T) T' i c hi he, gPut_put h]
theorem gSetP0 {mem : xM} {g : Nat} {S T : gS} {c : va_E} (h : gAt mem g S) (T' : gS) (he : (gCells g T).set 0 c = gCells g T') : (gPut mem g T).set g c = gPut mem g T' := gSetP h T' 0 (by decide) he
abbrev g_wLe (S : gS) (f : Nat → Int32) : gS := (f, S.2)
abbrev g_wLa (S : gS) (f : Nat → Int32) : gS := (S.1, f, S.2.2)
abbrev g_wPl (S : gS) (f : Nat → Int32) : gS := (S.1, S.2.1, f, S.2.2.2)
abbrev g_wTp (S : gS) (f : Nat → Int32) : gS := (S.1, S.2.1, S.2.2.1, f, S.2.2.2.2)
abbrev g_wRs (S : gS) (f : Nat → Int32) : gS := (S.1, S.2.1, S.2.2.1, S.2.2.2.1, f, S.2.2.2.2.2)
abbrev g_wTl (S : gS) (f : Nat → Int32) : gS := (S.1, S.2.1, S.2.2.1, S.2.2.2.1, S.2.2.2.2.1, f, S.2.2.2.2.2.2)
abbrev g_wLm (S : gS) (f : Nat → Int32) : gS := (S.1, S.2.1, S.2.2.1, S.2.2.2.1, S.2.2.2.2.1, S.2.2.2.2.2.1, f, S.2.2.2.2.2.2.2)
abbrev g_wSl (S : gS) (f : Nat → Int32) : gS := (S.1, S.2.1, S.2.2.1, S.2.2.2.1, S.2.2.2.2.1, S.2.2.2.2.2.1, S.2.2.2.2.2.2.1, f, S.2.2.2.2.2.2.2.2)
abbrev g_wO (S : gS) (a b c d e : Int32) : gS := (S.1, S.2.1, S.2.2.1, S.2.2.2.1, S.2.2.2.2.1, S.2.2.2.2.2.1, S.2.2.2.2.2.2.1, S.2.2.2.2.2.2.2.1, a, b, c, d, e)
/-! numbers -/
def b2i (p : Prop) [Decidable p] : Int32 := if p then 1 else 0
theorem b2i_t {p : Prop} [Decidable p] (h : p) : b2i p = 1 := if_pos h
theorem b2i_f {p : Prop} [Decidable p] (h : ¬ p) : b2i p = 0 := if_neg h
theorem b2i_0 {p : Prop} [Decidable p] : b2i p = 0 ↔ ¬ p := by
  unfold b2i
  by_cases h : p <;> simp [h]
theorem b2i_n0 {p : Prop} [Decidable p] : ¬ b2i p = 0 ↔ p := by
  unfold b2i
  by_cases h : p <;> simp [h]
theorem b2i_c {p q : Prop} [Decidable p] [Decidable q] (h : p ↔ q) : b2i p = b2i q := by
  unfold b2i
  by_cases hp : p
  · rw [if_pos hp, if_pos (h.mp hp)]
  · rw [if_neg hp, if_neg (fun hq => hp (h.mpr hq))]
theorem i_rng (x : Int32) : -2147483648 ≤ x.toInt ∧ x.toInt ≤ 2147483647 := by
  have a := x.le_toInt
  have b := x.toInt_lt
  omega
theorem i_add {x y : Int32} (h1 : -2147483648 ≤ x.toInt + y.toInt) (h2 : x.toInt + y.toInt ≤ 2147483647) : (x + y).toInt = x.toInt + y.toInt := by
  rw [Int32.toInt_add, Int.bmod_eq_of_le] <;> omega
theorem i_sub {x y : Int32} (h1 : -2147483648 ≤ x.toInt - y.toInt) (h2 : x.toInt - y.toInt ≤ 2147483647) : (x - y).toInt = x.toInt - y.toInt := by
  rw [Int32.toInt_sub, Int.bmod_eq_of_le] <;> omega
theorem i_mul {x y : Int32} (h1 : -2147483648 ≤ x.toInt * y.toInt) (h2 : x.toInt * y.toInt ≤ 2147483647) : (x * y).toInt = x.toInt * y.toInt := by
  rw [Int32.toInt_mul, Int.bmod_eq_of_le] <;> omega
theorem i_in {x : Int32} {n : Nat} (h1 : 0 ≤ x.toInt) (h2 : x.toInt < n) : vp_in x n := vp_in_iff.mpr ⟨h1, h2⟩
theorem i_cl {x : Int32} (h : 0 ≤ x.toInt) : (x.toNatClampNeg : Int) = x.toInt := by
  show ((x.toInt.toNat : Nat) : Int) = x.toInt
  omega
theorem i_nI {x : Int32} (h : 0 ≤ x.toInt) : x = nI x.toNatClampNeg := by
  have e := i_cl h
  have r := i_rng x
  rw [i_eq, nI_toInt (by omega)]
  omega
