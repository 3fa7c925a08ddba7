/-! the law: the fewest rolls -/
section LF
variable {G : xG} {mem : xM} {rd rl rc rt T m i j n s p w nn : Nat} {c t d : Nat → Int32} {S : gS} {more : Int32} {R : Option Value → xM → Prop} {f f0 D : Nat → Nat}
abbrev fM (mem : xM) (f : Nat → Nat) : xM := mem ++ [g_a 0 61 (fun j => nI (f j))]
abbrev wL (rd rt p rf : Nat) (more : Int32) (s n : Nat) : List (Nat × Value) := [(0, .ref rd), (1, .ref rt), (2, .int (nI p)), (3, .ref rf), (4, .int more), (5, .int (nI s)), (6, .int (nI n))]
abbrev wL8 (rd rt p rf : Nat) (more : Int32) (s n w : Nat) : List (Nat × Value) := [(0, .ref rd), (1, .ref rt), (2, .int (nI p)), (3, .ref rf), (4, .int more), (5, .int (nI s)), (6, .int (nI n)), (8, .int (nI w))]
theorem fM_upd : (fM mem f).set mem.length (g_a 0 61 (upd (fun j => nI (f j)) s (nI w))) = fM mem (updN f s w) := by
  rw [x_app_s]
  congr 4
  funext j
  show (if j = s then nI w else nI (f j)) = nI (if j = s then w else f j)
  by_cases e : j = s
  · rw [if_pos e, if_pos e]
  · rw [if_neg e, if_neg e]
theorem y_fewB (hs : s < 60) (hw : w ≤ 100) (hf : ∀ j, f j ≤ 100) (kU : w ≠ 0 → (f s = 0 ∨ w < f s) → E G kL_fewest R 1 61 (fM mem (updN f s w)) 30 (x_L (wL rd rt p mem.length 1 s (n + 1))) []) (kN : (w = 0 ∨ f s ≠ 0 ∧ f s ≤ w) → E G kL_fewest R 1 61 (fM mem f) 30 (x_L (wL rd rt p mem.length more s (n + 1))) []) : E G kL_fewest R 1 61 (fM mem f) 103 (x_L (wL8 rd rt p mem.length more s n w)) [] := by
  have a0 : (fM mem f)[mem.length]? = some (g_a 0 61 (fun j => nI (f j))) := x_app_n
  have ew : (nI w).toInt = (w : Int) := nI_toInt (by omega)
  have efs : (nI (f s)).toInt = (f s : Int) := nI_toInt (by have := hf s; omega)
  refine E_iload dL_fewest_103 (by rfl) ?_
  refine E_if_le (tgt := 133) dL_fewest_105 (by decide) (fun q105 => ?_) (fun q105 => ?_)
  · refine E_iinc (d := 1) dL_fewest_133 (by rfl) (by decide) (Nat.le_of_ble_eq_true rfl) (by rfl) ?_
    refine E_goto (tgt := 30) dL_fewest_136 (by decide) ?_
    first | exact E_loc (wL rd rt p mem.length 1 s (n + 1)) ⟨rfl, rfl, rfl, rfl, rfl, rfl, x_i (nI_1 n), trivial⟩ (kU (by omega) (by omega)) | exact E_loc (wL rd rt p mem.length more s (n + 1)) ⟨rfl, rfl, rfl, rfl, rfl, rfl, x_i (nI_1 n), trivial⟩ (kN (by omega))
  · refine E_aload_n dL_fewest_108 (by rfl) ?_
    refine E_iload dL_fewest_109 (by rfl) ?_
    refine E_rd dL_fewest_111 (by assumption) rfl (by omega) (by first | decide | omega) rfl ?_
    refine E_if_eq (tgt := 124) dL_fewest_112 (by decide) (fun q112 => ?_) (fun q112 => ?_)
    · refine E_aload_n dL_fewest_124 (by rfl) ?_
      refine E_iload dL_fewest_125 (by rfl) ?_
      refine E_iload dL_fewest_127 (by rfl) ?_
      refine E_wr dL_fewest_129 (by assumption) rfl (by omega) (by first | decide | omega) ?_
      refine E_mem (mem' := fM mem (updN f s w)) fM_upd ?_
      refine E_iconst (v := 1) dL_fewest_130 (by decide) ?_
      refine E_istore dL_fewest_131 (Nat.le_of_ble_eq_true rfl) (by rfl) ?_
      refine E_iinc (d := 1) dL_fewest_133 (by rfl) (by decide) (Nat.le_of_ble_eq_true rfl) (by rfl) ?_
      refine E_goto (tgt := 30) dL_fewest_136 (by decide) ?_
      first | exact E_loc (wL rd rt p mem.length 1 s (n + 1)) ⟨rfl, rfl, rfl, rfl, rfl, rfl, x_i (nI_1 n), trivial⟩ (kU (by omega) (by omega)) | exact E_loc (wL rd rt p mem.length more s (n + 1)) ⟨rfl, rfl, rfl, rfl, rfl, rfl, x_i (nI_1 n), trivial⟩ (kN (by omega))
    · refine E_iload dL_fewest_115 (by rfl) ?_
      refine E_aload_n dL_fewest_117 (by rfl) ?_
      refine E_iload dL_fewest_118 (by rfl) ?_
      refine E_rd dL_fewest_120 (by assumption) rfl (by omega) (by first | decide | omega) rfl ?_
      refine E_icmp_ge (n := _) rfl (tgt := 133) dL_fewest_121 (by decide) (fun q121 => ?_) (fun q121 => ?_)
      · refine E_iinc (d := 1) dL_fewest_133 (by rfl) (by decide) (Nat.le_of_ble_eq_true rfl) (by rfl) ?_
        refine E_goto (tgt := 30) dL_fewest_136 (by decide) ?_
        first | exact E_loc (wL rd rt p mem.length 1 s (n + 1)) ⟨rfl, rfl, rfl, rfl, rfl, rfl, x_i (nI_1 n), trivial⟩ (kU (by omega) (by omega)) | exact E_loc (wL rd rt p mem.length more s (n + 1)) ⟨rfl, rfl, rfl, rfl, rfl, rfl, x_i (nI_1 n), trivial⟩ (kN (by omega))
      · refine E_aload_n dL_fewest_124 (by rfl) ?_
        refine E_iload dL_fewest_125 (by rfl) ?_
        refine E_iload dL_fewest_127 (by rfl) ?_
        refine E_wr dL_fewest_129 (by assumption) rfl (by omega) (by first | decide | omega) ?_
        refine E_mem (mem' := fM mem (updN f s w)) fM_upd ?_
        refine E_iconst (v := 1) dL_fewest_130 (by decide) ?_
        refine E_istore dL_fewest_131 (Nat.le_of_ble_eq_true rfl) (by rfl) ?_
        refine E_iinc (d := 1) dL_fewest_133 (by rfl) (by decide) (Nat.le_of_ble_eq_true rfl) (by rfl) ?_
        refine E_goto (tgt := 30) dL_fewest_136 (by decide) ?_
        first | exact E_loc (wL rd rt p mem.length 1 s (n + 1)) ⟨rfl, rfl, rfl, rfl, rfl, rfl, x_i (nI_1 n), trivial⟩ (kU (by omega) (by omega)) | exact E_loc (wL rd rt p mem.length more s (n + 1)) ⟨rfl, rfl, rfl, rfl, rfl, rfl, x_i (nI_1 n), trivial⟩ (kN (by omega))
theorem y_fewA (t60 : T ≤ 60) (b1 : mem[rd]? = some (g_a 0 61 d)) (b2 : mem[rt]? = some (g_a 0 7 t)) (ht0 : t 0 = nI T) (hD1 : ∀ y, y < T → ¬ (d y).toInt < 0 → d y = nI (D y)) (hD2 : ∀ y, y < T → (d y).toInt < 0 → D y = y) (hd : ∀ y, y < T → D y < T) (hs : s < T) (hn : 1 ≤ n ∧ n ≤ 6) (hf : ∀ j, f j ≤ 60) (kU : wayN D T f s n ≠ 0 → (f s = 0 ∨ wayN D T f s n < f s) → E G kL_fewest R 1 61 (fM mem (updN f s (wayN D T f s n))) 30 (x_L (wL rd rt p mem.length 1 s (n + 1))) []) (kN : Stb D T f s n → E G kL_fewest R 1 61 (fM mem f) 30 (x_L (wL rd rt p mem.length more s (n + 1))) []) : E G kL_fewest R 1 61 (fM mem f) 30 (x_L (wL rd rt p mem.length more s n)) [] := by
  have a0 : (fM mem f)[mem.length]? = some (g_a 0 61 (fun j => nI (f j))) := x_app_n
  have a1 : (fM mem f)[rd]? = some (g_a 0 61 d) := x_app_l b1
  have a2 : (fM mem f)[rt]? = some (g_a 0 7 t) := x_app_l b2
  have eT : (nI T).toInt = (T : Int) := nI_toInt (by omega)
  have en : (nI n).toInt = (n : Int) := nI_toInt (by omega)
  have esn : (nI (s + n)).toInt = ((s + n : Nat) : Int) := nI_toInt (by omega)
  have hB := y_fewB (G := G) (R := R) (mem := mem) (rd := rd) (rt := rt) (p := p) (more := more) (s := s) (n := n) (w := wayN D T f s n) (f := f) (by omega) (by unfold wayN; split; omega; split; omega; have := hf (D (s + n)); omega) (fun j => by have := hf j; omega) kU kN
  -- the way behind the look at the carpet
  have lo : s + n < T → E G kL_fewest R 1 61 (fM mem f) 74 (x_L [(0, .ref rd), (1, .ref rt), (2, .int (nI p)), (3, .ref mem.length), (4, .int more), (5, .int (nI s)), (6, .int (nI n)), (7, .int (nI (s + n)))]) [.int (nI (f (D (s + n))))] := by
    intro hlt
    have efd : (nI (f (D (s + n)))).toInt = (f (D (s + n)) : Int) := nI_toInt (by have := hf (D (s + n)); omega)
    have hw : wayN D T f s n = if f (D (s + n)) = 0 then 0 else f (D (s + n)) + 1 := by unfold wayN; rw [if_neg (by omega)]
    refine E_istore dL_fewest_74 (Nat.le_of_ble_eq_true rfl) (by rfl) ?_
    refine E_iload dL_fewest_76 (by rfl) ?_
    refine E_aload_n dL_fewest_78 (by rfl) ?_
    refine E_iconst (v := 0) dL_fewest_79 (by decide) ?_
    refine E_rd dL_fewest_80 (by assumption) (show (0 : Int32) = nI 0 from rfl) (by omega) (by first | decide | omega) ht0 ?_
    refine E_icmp_lt (n := _) rfl (tgt := 88) dL_fewest_81 (by decide) (fun q81 => ?_) (fun q81 => ?_)
    · refine E_iload dL_fewest_88 (by rfl) ?_
      refine E_if_le (tgt := 100) dL_fewest_90 (by decide) (fun q90 => ?_) (fun q90 => ?_)
      · refine E_iconst (v := 0) dL_fewest_100 (by decide) ?_
        refine E_istore dL_fewest_101 (Nat.le_of_ble_eq_true rfl) (by rfl) ?_
        first | exact E_loc (wL8 rd rt p mem.length more s n (wayN D T f s n)) ⟨rfl, rfl, rfl, rfl, rfl, rfl, rfl, x_i (by rw [hw, if_pos (by omega)]; rfl), trivial⟩ hB | exact E_loc (wL8 rd rt p mem.length more s n (wayN D T f s n)) ⟨rfl, rfl, rfl, rfl, rfl, rfl, rfl, x_i (by rw [hw, if_neg (by omega)]; exact nI_1 _), trivial⟩ hB
      · refine E_iload dL_fewest_93 (by rfl) ?_
        refine E_iconst (v := 1) dL_fewest_95 (by decide) ?_
        refine E_iadd dL_fewest_96 ?_
        refine E_goto (tgt := 101) dL_fewest_97 (by decide) ?_
        refine E_istore dL_fewest_101 (Nat.le_of_ble_eq_true rfl) (by rfl) ?_
        first | exact E_loc (wL8 rd rt p mem.length more s n (wayN D T f s n)) ⟨rfl, rfl, rfl, rfl, rfl, rfl, rfl, x_i (by rw [hw, if_pos (by omega)]; rfl), trivial⟩ hB | exact E_loc (wL8 rd rt p mem.length more s n (wayN D T f s n)) ⟨rfl, rfl, rfl, rfl, rfl, rfl, rfl, x_i (by rw [hw, if_neg (by omega)]; exact nI_1 _), trivial⟩ hB
    · exact absurd q81 (by omega)
  have hi : ¬ s + n < T → E G kL_fewest R 1 61 (fM mem f) 74 (x_L [(0, .ref rd), (1, .ref rt), (2, .int (nI p)), (3, .ref mem.length), (4, .int more), (5, .int (nI s)), (6, .int (nI n)), (7, .int (nI (s + n)))]) [.int 1] := by
    intro hge
    have hw : wayN D T f s n = 1 := by unfold wayN; rw [if_pos (by omega)]
    refine E_istore dL_fewest_74 (Nat.le_of_ble_eq_true rfl) (by rfl) ?_
    refine E_iload dL_fewest_76 (by rfl) ?_
    refine E_aload_n dL_fewest_78 (by rfl) ?_
    refine E_iconst (v := 0) dL_fewest_79 (by decide) ?_
    refine E_rd dL_fewest_80 (by assumption) (show (0 : Int32) = nI 0 from rfl) (by omega) (by first | decide | omega) ht0 ?_
    refine E_icmp_lt (n := _) rfl (tgt := 88) dL_fewest_81 (by decide) (fun q81 => ?_) (fun q81 => ?_)
    · exact absurd q81 (by omega)
    · refine E_iconst (v := 1) dL_fewest_84 (by decide) ?_
      refine E_goto (tgt := 101) dL_fewest_85 (by decide) ?_
      refine E_istore dL_fewest_101 (Nat.le_of_ble_eq_true rfl) (by rfl) ?_
      exact E_loc (wL8 rd rt p mem.length more s n (wayN D T f s n)) ⟨rfl, rfl, rfl, rfl, rfl, rfl, rfl, x_i (by rw [hw]; rfl), trivial⟩ hB
  have e7 : (7 : Int32).toInt = 7 := by decide
  refine E_iload dL_fewest_30 (by rfl) ?_
  refine E_bipush (v := 7) dL_fewest_32 (by decide) ?_
  refine E_icmp_ge (n := 7) (by decide) (tgt := 139) dL_fewest_34 (by decide) (fun q34 => ?_) (fun q34 => ?_)
  · exact absurd q34 (by omega)
  · refine E_iload dL_fewest_37 (by rfl) ?_
    refine E_iload dL_fewest_39 (by rfl) ?_
    refine E_iadd dL_fewest_41 ?_
    refine E_eqi (nI_add s n) ?_
    refine E_istore dL_fewest_42 (Nat.le_of_ble_eq_true rfl) (by rfl) ?_
    refine E_iload dL_fewest_44 (by rfl) ?_
    refine E_aload_n dL_fewest_46 (by rfl) ?_
    refine E_iconst (v := 0) dL_fewest_47 (by decide) ?_
    refine E_rd dL_fewest_48 (by assumption) (show (0 : Int32) = nI 0 from rfl) (by omega) (by first | decide | omega) ht0 ?_
    refine E_icmp_lt (n := _) rfl (tgt := 56) dL_fewest_49 (by decide) (fun q49 => ?_) (fun q49 => ?_)
    · refine E_aload_n dL_fewest_56 (by rfl) ?_
      refine E_aload_n dL_fewest_57 (by rfl) ?_
      refine E_iload dL_fewest_58 (by rfl) ?_
      refine E_rd dL_fewest_60 (by assumption) rfl (by omega) (by first | decide | omega) rfl ?_
      refine E_if_lt (tgt := 71) dL_fewest_61 (by decide) (fun q61 => ?_) (fun q61 => ?_)
      · have hlt : s + n < T := by omega
        have hd2 := hD2 (s + n) hlt q61
        refine E_iload dL_fewest_71 (by rfl) ?_
        refine E_rd dL_fewest_73 (by assumption) rfl (by omega) (by first | decide | omega) rfl ?_
        first | exact E_loc [(0, .ref rd), (1, .ref rt), (2, .int (nI p)), (3, .ref mem.length), (4, .int more), (5, .int (nI s)), (6, .int (nI n)), (7, .int (nI (s + n)))] ⟨rfl, rfl, rfl, rfl, rfl, rfl, rfl, rfl, trivial⟩ (hi (by omega)) | exact E_loc [(0, .ref rd), (1, .ref rt), (2, .int (nI p)), (3, .ref mem.length), (4, .int more), (5, .int (nI s)), (6, .int (nI n)), (7, .int (nI (s + n)))] ⟨rfl, rfl, rfl, rfl, rfl, rfl, rfl, rfl, trivial⟩ (lo hlt) | exact E_loc [(0, .ref rd), (1, .ref rt), (2, .int (nI p)), (3, .ref mem.length), (4, .int more), (5, .int (nI s)), (6, .int (nI n)), (7, .int (nI (s + n)))] ⟨rfl, rfl, rfl, rfl, rfl, rfl, rfl, rfl, trivial⟩ (E_eqi (by rw [hd2]) (lo hlt))
      · have hlt : s + n < T := by omega
        have hdd := hd (s + n) hlt
        have hd1 := hD1 (s + n) hlt q61
        refine E_aload_n dL_fewest_64 (by rfl) ?_
        refine E_iload dL_fewest_65 (by rfl) ?_
        refine E_rd dL_fewest_67 (by assumption) rfl (by omega) (by first | decide | omega) hd1 ?_
        refine E_goto (tgt := 73) dL_fewest_68 (by decide) ?_
        refine E_rd dL_fewest_73 (by assumption) rfl (by omega) (by first | decide | omega) rfl ?_
        first | exact E_loc [(0, .ref rd), (1, .ref rt), (2, .int (nI p)), (3, .ref mem.length), (4, .int more), (5, .int (nI s)), (6, .int (nI n)), (7, .int (nI (s + n)))] ⟨rfl, rfl, rfl, rfl, rfl, rfl, rfl, rfl, trivial⟩ (hi (by omega)) | exact E_loc [(0, .ref rd), (1, .ref rt), (2, .int (nI p)), (3, .ref mem.length), (4, .int more), (5, .int (nI s)), (6, .int (nI n)), (7, .int (nI (s + n)))] ⟨rfl, rfl, rfl, rfl, rfl, rfl, rfl, rfl, trivial⟩ (lo hlt) | exact E_loc [(0, .ref rd), (1, .ref rt), (2, .int (nI p)), (3, .ref mem.length), (4, .int more), (5, .int (nI s)), (6, .int (nI n)), (7, .int (nI (s + n)))] ⟨rfl, rfl, rfl, rfl, rfl, rfl, rfl, rfl, trivial⟩ (E_eqi (by rw [hd2]) (lo hlt))
    · refine E_iconst (v := 1) dL_fewest_52 (by decide) ?_
      refine E_goto (tgt := 74) dL_fewest_53 (by decide) ?_
      first | exact E_loc [(0, .ref rd), (1, .ref rt), (2, .int (nI p)), (3, .ref mem.length), (4, .int more), (5, .int (nI s)), (6, .int (nI n)), (7, .int (nI (s + n)))] ⟨rfl, rfl, rfl, rfl, rfl, rfl, rfl, rfl, trivial⟩ (hi (by omega)) | exact E_loc [(0, .ref rd), (1, .ref rt), (2, .int (nI p)), (3, .ref mem.length), (4, .int more), (5, .int (nI s)), (6, .int (nI n)), (7, .int (nI (s + n)))] ⟨rfl, rfl, rfl, rfl, rfl, rfl, rfl, rfl, trivial⟩ (lo hlt) | exact E_loc [(0, .ref rd), (1, .ref rt), (2, .int (nI p)), (3, .ref mem.length), (4, .int more), (5, .int (nI s)), (6, .int (nI n)), (7, .int (nI (s + n)))] ⟨rfl, rfl, rfl, rfl, rfl, rfl, rfl, rfl, trivial⟩ (E_eqi (by rw [hd2]) (lo hlt))
/-- all six ways from a step -/
theorem y_fewN (t60 : T ≤ 60) (b1 : mem[rd]? = some (g_a 0 61 d)) (b2 : mem[rt]? = some (g_a 0 7 t)) (ht0 : t 0 = nI T) (hD1 : ∀ y, y < T → ¬ (d y).toInt < 0 → d y = nI (D y)) (hD2 : ∀ y, y < T → (d y).toInt < 0 → D y = y) (hd : ∀ y, y < T → D y < T) (hs : s < T) : ∀ (u n : Nat) (f : Nat → Nat) (more : Int32), 7 = n + u → 1 ≤ n → Ps D T f0 f more s n → (∀ f' more', Ps D T f0 f' more' s 7 → E G kL_fewest R 1 61 (fM mem f') 139 (x_L (wL rd rt p mem.length more' s 7)) []) → E G kL_fewest R 1 61 (fM mem f) 30 (x_L (wL rd rt p mem.length more s n)) [] := by
  intro u
  induction u with
  | zero =>
    intro n f more hn h1 hP kk
    obtain rfl : n = 7 := by omega
    refine E_iload dL_fewest_30 (by rfl) ?_
    refine E_bipush (v := 7) dL_fewest_32 (by decide) ?_
    refine E_icmp_ge (n := 7) (by decide) (tgt := 139) dL_fewest_34 (by decide) (fun q34 => ?_) (fun q34 => ?_)
    · exact kk f more hP
    · exact absurd q34 (by decide)
  | succ u ih =>
    intro n f more hn h1 hP kk
    refine y_fewA t60 b1 b2 ht0 hD1 hD2 hd hs ⟨h1, by omega⟩ (fun j => by have := Fi_le hP.1 j; omega) (fun hw hu => ?_) (fun hb => ?_)
    · exact ih (n + 1) _ 1 (by omega) (by omega) (Ps_upd hd t60 hP hs ⟨h1, by omega⟩ hw hu) kk
    · exact ih (n + 1) f more (by omega) (by omega) (Ps_no hP hb) kk
abbrev wL5 (rd rt p rf : Nat) (more : Int32) (s : Nat) : List (Nat × Value) := [(0, .ref rd), (1, .ref rt), (2, .int (nI p)), (3, .ref rf), (4, .int more), (5, .int (nI s))]
abbrev wL4 (rd rt p rf : Nat) (more : Int32) : List (Nat × Value) := [(0, .ref rd), (1, .ref rt), (2, .int (nI p)), (3, .ref rf), (4, .int more)]
/-- a pass over the steps -/
theorem y_fewS (t60 : T ≤ 60) (b1 : mem[rd]? = some (g_a 0 61 d)) (b2 : mem[rt]? = some (g_a 0 7 t)) (ht0 : t 0 = nI T) (hD1 : ∀ y, y < T → ¬ (d y).toInt < 0 → d y = nI (D y)) (hD2 : ∀ y, y < T → (d y).toInt < 0 → D y = y) (hd : ∀ y, y < T → D y < T) : ∀ (u s : Nat) (f : Nat → Nat) (more : Int32), T = s + u → Ps D T f0 f more s 1 → (∀ f' more', Ps D T f0 f' more' T 1 → E G kL_fewest R 1 61 (fM mem f') 8 (x_L (wL4 rd rt p mem.length more')) []) → E G kL_fewest R 1 61 (fM mem f) 19 (x_L (wL5 rd rt p mem.length more s)) [] := by
  have eT : (nI T).toInt = (T : Int) := nI_toInt (by omega)
  intro u
  induction u with
  | zero =>
    intro s f more hs hP kk
    obtain rfl : T = s := by omega
    have a2 : (fM mem f)[rt]? = some (g_a 0 7 t) := x_app_l b2
    refine E_iload dL_fewest_19 (by rfl) ?_
    refine E_aload_n dL_fewest_21 (by rfl) ?_
    refine E_iconst (v := 0) dL_fewest_22 (by decide) ?_
    refine E_rd dL_fewest_23 (by assumption) (show (0 : Int32) = nI 0 from rfl) (by omega) (by first | decide | omega) ht0 ?_
    refine E_icmp_ge (n := _) rfl (tgt := 145) dL_fewest_24 (by decide) (fun q24 => ?_) (fun q24 => ?_)
    · refine E_goto (tgt := 8) dL_fewest_145 (by decide) ?_
      exact E_loc (wL4 rd rt p mem.length more) ⟨rfl, rfl, rfl, rfl, rfl, trivial⟩ (kk f more hP)
    · exact absurd q24 (by omega)
  | succ u ih =>
    intro s f more hs hP kk
    have es : (nI s).toInt = (s : Int) := nI_toInt (by omega)
    have a2 : (fM mem f)[rt]? = some (g_a 0 7 t) := x_app_l b2
    have rest : ∀ f' more', Ps D T f0 f' more' s 7 → E G kL_fewest R 1 61 (fM mem f') 139 (x_L (wL rd rt p mem.length more' s 7)) [] := by
      intro f' more' hP'
      refine E_iinc (d := 1) dL_fewest_139 (by rfl) (by decide) (Nat.le_of_ble_eq_true rfl) (by rfl) ?_
      refine E_goto (tgt := 19) dL_fewest_142 (by decide) ?_
      exact E_loc (wL5 rd rt p mem.length more' (s + 1)) ⟨rfl, rfl, rfl, rfl, rfl, x_i (nI_1 s), trivial⟩ (ih (s + 1) f' more' (by omega) (Ps_nx hP') kk)
    refine E_iload dL_fewest_19 (by rfl) ?_
    refine E_aload_n dL_fewest_21 (by rfl) ?_
    refine E_iconst (v := 0) dL_fewest_22 (by decide) ?_
    refine E_rd dL_fewest_23 (by assumption) (show (0 : Int32) = nI 0 from rfl) (by omega) (by first | decide | omega) ht0 ?_
    refine E_icmp_ge (n := _) rfl (tgt := 145) dL_fewest_24 (by decide) (fun q24 => ?_) (fun q24 => ?_)
    · exact absurd q24 (by omega)
    · refine E_iconst (v := 1) dL_fewest_27 (by decide) ?_
      refine E_istore dL_fewest_28 (Nat.le_of_ble_eq_true rfl) (by rfl) ?_
      exact E_loc (wL rd rt p mem.length more s 1) ⟨rfl, rfl, rfl, rfl, rfl, rfl, rfl, trivial⟩ (y_fewN t60 b1 b2 ht0 hD1 hD2 hd (by omega) 6 1 f more (by omega) (by omega) hP rest)
/-- until nothing changes -/
theorem y_fewW (t60 : T ≤ 60) (b1 : mem[rd]? = some (g_a 0 61 d)) (b2 : mem[rt]? = some (g_a 0 7 t)) (ht0 : t 0 = nI T) (hD1 : ∀ y, y < T → ¬ (d y).toInt < 0 → d y = nI (D y)) (hD2 : ∀ y, y < T → (d y).toInt < 0 → D y = y) (hd : ∀ y, y < T → D y < T) (kk : ∀ f', Fi D T f' → (∀ s n, s < T → 1 ≤ n → n ≤ 6 → Stb D T f' s n) → E G kL_fewest R 1 61 (fM mem f') 148 (x_L (wL4 rd rt p mem.length 0)) []) : ∀ (B : Nat) (f : Nat → Nat), Mu f T < B → Fi D T f → E G kL_fewest R 1 61 (fM mem f) 8 (x_L (wL4 rd rt p mem.length 1)) [] := by
  intro B
  induction B with
  | zero => intro f h _; exact absurd h (by omega)
  | succ B ih =>
    intro f hB hF
    have rest : ∀ f' more', Ps D T f f' more' T 1 → E G kL_fewest R 1 61 (fM mem f') 8 (x_L (wL4 rd rt p mem.length more')) [] := by
      intro f' more' hP
      rcases hP.2 with ⟨e1, e2, e3⟩ | ⟨e1, e2⟩
      · subst e1
        refine E_iload dL_fewest_8 (by rfl) ?_
        refine E_if_eq (tgt := 148) dL_fewest_10 (by decide) (fun q10 => ?_) (fun q10 => ?_)
        · exact kk f' hP.1 (fun s n h1 h2 h3 => e3 s n h2 h3 (Or.inl h1))
        · exact absurd rfl q10
      · subst e1
        exact ih f' (by omega) hP.1
    refine E_iload dL_fewest_8 (by rfl) ?_
    refine E_if_eq (tgt := 148) dL_fewest_10 (by decide) (fun q10 => ?_) (fun q10 => ?_)
    · exact absurd q10 (by decide)
    · refine E_iconst (v := 0) dL_fewest_13 (by decide) ?_
      refine E_istore dL_fewest_14 (Nat.le_of_ble_eq_true rfl) (by rfl) ?_
      refine E_iconst (v := 0) dL_fewest_16 (by decide) ?_
      refine E_istore dL_fewest_17 (Nat.le_of_ble_eq_true rfl) (by rfl) ?_
      exact E_loc (wL5 rd rt p mem.length 0 0) ⟨rfl, rfl, rfl, rfl, rfl, rfl, trivial⟩ (y_fewS (f0 := f) t60 b1 b2 ht0 hD1 hD2 hd T 0 f 0 (by omega) ⟨hF, Or.inl ⟨rfl, rfl, fun s' n' h1 h2 h3 => by omega⟩⟩ rest)
abbrev gD (S : gS) (y : Nat) : Nat := (gDst S y).toNatClampNeg
theorem Iv.gd {n m : Nat} (hI : Iv S T n m) {y : Nat} (hy : y < T) : gDst S y = nI (gD S y) ∧ gD S y < T ∧ (g_le S y = -6 → gD S y = y) ∧ (¬ g_le S y = -6 → gDst S y = g_le S y) := by
  have t60 := hI.t60
  have ey : (nI y).toInt = (y : Int) := nI_toInt (by omega)
  have ecy : (nI y).toNatClampNeg = y := nI_clamp (by omega)
  have hg : gDst S y = if g_isUp S (nI y) then g_le S y else nI y := rfl
  unfold gD
  rcases hI.le y (by omega) with e | ⟨l, h1, h2, h3⟩
  · rw [if_neg (fun z => by have z2 := z.2; rw [ecy, e] at z2; exact z2 (by decide))] at hg
    rw [hg, ecy]
    exact ⟨rfl, hy, fun _ => rfl, fun z => absurd e z⟩
  · rw [if_pos ⟨⟨by omega, by rw [hI.gtI]; omega⟩, by rw [ecy, h3]; exact fun z => nI_ne6 (a := l) (by omega) (i_6.mp z)⟩, h3] at hg
    rw [hg, h3, nI_clamp (by omega)]
    exact ⟨rfl, by omega, fun z => absurd z (nI_ne6 (by omega)), fun _ => rfl⟩
theorem y_fewest {n m : Nat} (hI : Iv S T n m) (hd : Rd S d) (b1 : mem[rd]? = some (g_a 0 61 d)) (b2 : mem[rt]? = some (g_a 0 7 t)) (ht0 : t 0 = nI T) (hp : p < T) : Pt G kL_fewest [.ref rd, .ref rt, .int (nI p)] mem (some (.int (sFew S T T 1 (lB (nI p))))) (fun mm => ∃ F, mm = mem ++ [g_a 0 61 F]) := by
  have t60 := hI.t60
  have hD1 : ∀ y, y < T → ¬ (d y).toInt < 0 → d y = nI (gD S y) := fun y hy hn => by
    have hn' : ¬ g_le S y = -6 := fun z => hn ((hd.neg (by omega)).mpr z)
    have g := hI.gd hy
    rw [hd.eq (by omega) hn', ← g.2.2.2 hn']
    exact g.1
  have hD2 : ∀ y, y < T → (d y).toInt < 0 → gD S y = y := fun y hy hn => (hI.gd hy).2.2.1 ((hd.neg (by omega)).mp hn)
  have hdl : ∀ y, y < T → gD S y < T := fun y hy => (hI.gd hy).2.1
  have hDg : ∀ y, y < T → gDst S y = nI (gD S y) := fun y hy => (hI.gd hy).1
  refine Ct_of (by decide) (Nat.le_of_ble_eq_true rfl) ?_
  have fin : ∀ f', Fi (gD S) T f' → (∀ s n, s < T → 1 ≤ n → n ≤ 6 → Stb (gD S) T f' s n) → E G kL_fewest (fun v' m => v' = some (.int (sFew S T T 1 (lB (nI p)))) ∧ ∃ F, m = mem ++ [g_a 0 61 F]) 1 61 (fM mem f') 148 (x_L (wL4 rd rt p mem.length 0)) [] := by
    intro f' hF hb
    have a0 : (fM mem f')[mem.length]? = some (g_a 0 61 (fun j => nI (f' j))) := x_app_n
    have efp : (nI (f' p)).toInt = (f' p : Int) := nI_toInt (by have := Fi_le hF p; omega)
    have hr := few_eq ⟨hI.t10, t60⟩ hp hdl hDg hF hb
    refine E_aload_n dL_fewest_148 (by rfl) ?_
    refine E_iload_n dL_fewest_149 (by rfl) ?_
    refine E_rd dL_fewest_150 (by assumption) rfl (by omega) (by first | decide | omega) rfl ?_
    refine E_if_ne (tgt := 159) dL_fewest_151 (by decide) (fun q151 => ?_) (fun q151 => ?_)
    · refine E_aload_n dL_fewest_159 (by rfl) ?_
      refine E_iload_n dL_fewest_160 (by rfl) ?_
      refine E_rd dL_fewest_161 (by assumption) rfl (by omega) (by first | decide | omega) rfl ?_
      refine E_iret dL_fewest_162 rfl rfl (by decide) (by decide) ?_
      first | exact ⟨by rw [hr, if_pos (by omega)], _, rfl⟩ | exact ⟨by rw [hr, if_neg (by omega)], _, rfl⟩
    · refine E_bipush (v := (-6)) dL_fewest_154 (by decide) ?_
      refine E_goto (tgt := 162) dL_fewest_156 (by decide) ?_
      refine E_iret dL_fewest_162 rfl rfl (by decide) (by decide) ?_
      first | exact ⟨by rw [hr, if_pos (by omega)], _, rfl⟩ | exact ⟨by rw [hr, if_neg (by omega)], _, rfl⟩
  have hF0 : Fi (gD S) T (fun _ => 0) := ⟨fun s _ h => absurd rfl h, fun s => Nat.zero_le _, fun s _ => rfl⟩
  refine E_bipush (v := 61) dL_fewest_0 (by decide) ?_
  refine E_newi (N := 61) dL_fewest_2 wa_int (by decide) (by decide) (by decide) (by decide) (by decide) ?_
  refine E_astore_n dL_fewest_4 (Nat.le_of_ble_eq_true rfl) (by rfl) ?_
  refine E_iconst (v := 1) dL_fewest_5 (by decide) ?_
  refine E_istore dL_fewest_6 (Nat.le_of_ble_eq_true rfl) (by rfl) ?_
  refine E_mem (mem' := fM mem (fun _ => 0)) rfl ?_
  exact E_loc (wL4 rd rt p mem.length 1) ⟨rfl, rfl, rfl, rfl, rfl, trivial⟩ (y_fewW t60 b1 b2 ht0 hD1 hD2 hdl fin (Mu (fun _ => 0) T + 1) _ (Nat.lt_succ_self _) hF0)
end LF
