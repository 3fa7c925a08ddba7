/-! THE MACHINE THROUGH ONE LIST OF CELLS. All cells that the law's run makes stand, in the order of their making, from the address B on: the cell of the number i at B + i. A memory is a list of contents; a reference in it is a number. Arrays name their class by a number: 0 int, 1 boolean, 2 char, 3 objects of class RX0. A float stands for the script's reference. -/
abbrev xI : Type := MethodName × ByteArray × Nat × Option FieldType × Nat × Nat × Nat × Nat
abbrev xG : Type := Launch × va_G × (Nat → ClassId) × Nat × Nat × Nat × (Nat → Int32)
abbrev xM : Type := List va_E
def x_rm (k : xI) : Room := { frames := k.2.2.2.2.1, cells := k.2.2.2.2.2.2.1, slots := k.2.2.2.2.2.2.2, locals := k.2.2.2.2.2.1 }
def x_tbl : List Cond := lw_tbl.filter goodWord
def x_ws (k : xI) : List Cond := .code k.1 k.2.1 k.2.2.1 k.2.2.2.1 :: x_tbl
theorem x_w {w : Cond} (i : Nat) (h : lw_tbl[i]? = some w) (hg : goodWord w = true) : w ∈ x_tbl := List.mem_filter.mpr ⟨List.mem_of_getElem? h, hg⟩
theorem x_in {ws : List Cond} (ps : List Nat) (hp : ws = ps.filterMap (fun i => lw_tbl[i]?)) (h : ws.all goodWord = true) : ∀ w ∈ ws, w ∈ x_tbl := by
  intro w hw
  have h1 := List.all_eq_true.mp h w hw
  rw [hp] at hw
  obtain ⟨i, -, hi⟩ := List.mem_filterMap.mp hw
  exact x_w i hi h1
theorem x_good {k : xI} (h : Cond.code k.1 k.2.1 k.2.2.1 k.2.2.2.1 ∈ x_tbl) : GoodIn x_tbl (x_ws k) := by
  intro w hw
  have hm : w ∈ x_tbl := by
    rcases List.mem_cons.mp hw with rfl | hw
    · exact h
    · exact hw
  exact ⟨hm, good_of_word (List.mem_filter.mp hm).2⟩
def x_v (G : xG) : Value → Value
  | .ref i => .ref (G.2.2.2.1 + i)
  | .float _ => .ref G.2.2.2.2.1
  | v => v
theorem x_cat (G : xG) (v : Value) : (x_v G v).category = v.category := by cases v <;> rfl
def x_a (G : xG) : vp_A → vp_A
  | (n, .inr (.inr (.inr (.inr f)))) => (n, .inr (.inr (.inr (.inr (fun j => (f j).map (fun i => G.2.2.2.1 + i))))))
  | a => a
def x_c (G : xG) : va_E → va_E
  | .inl (t, a) => .inl (G.2.2.1 t, x_a G a)
  | .inr (c, fs) => .inr (c, fs.map (x_v G))
def xRep (G : xG) (mem : xM) (H : Heap) : Prop := H.size = G.2.2.2.1 + mem.length ∧ ∀ (i : Nat) (c : va_E), mem[i]? = some c → va_at G.2.1 vwCl (G.2.2.2.1 + i, x_c G c) H
def xFr (G : xG) (s : State) (H : Heap) (locs : List Loc) : Prop := G.2.2.2.1 ≤ s.heap.size ∧ (∀ q : Nat, q < G.2.2.2.1 → H[q]? = s.heap[q]?) ∧ ∀ q ∈ locs, G.2.2.2.1 ≤ q.base
abbrev x_tys (G : xG) : List (ClassId × FieldType) := [(G.2.2.1 0, .int), (G.2.2.1 1, .boolean), (G.2.2.1 2, .char), (G.2.2.1 3, .object RX0)]
def x_nestW : Cond → Bool
  | .methodLinkNest _ _ _ _ => true
  | .fieldLinkNest _ _ _ _ _ _ => true
  | _ => false
def x_nests : List Cond := lw_tbl.filter x_nestW
theorem x_wn {w : Cond} (i : Nat) (h : lw_tbl[i]? = some w) (hg : x_nestW w = true) : w ∈ x_nests := List.mem_filter.mpr ⟨List.mem_of_getElem? h, hg⟩
theorem x_nest_warm {w : Cond} (hw : w ∈ x_nests) {s U : State} (hW : s.WarmedH U.vm) (h : va_Nw w s) : va_Nw w U := by
  have hg := (List.mem_filter.mp hw).2
  cases w <;> first | (simp [x_nestW] at hg; done) | exact h.warmM hW | exact h.warmF hW
theorem x_nest_same {w : Cond} (hw : w ∈ x_nests) {s U : State} (hW : s.vm = U.vm) (h : va_Nw w s) : va_Nw w U := by
  have hg := (List.mem_filter.mp hw).2
  cases w <;> first | (simp [x_nestW] at hg; done) | exact h.same rfl hW
def xEn (G : xG) (U : State) : Prop := va_K G.2.1 vwCl (x_tys G) U ∧ va_AO RX0 U ∧ va_X G.2.2.2.2.1 G.2.2.2.2.2.1 G.2.2.2.2.2.2 U U.heap ∧ G.2.2.2.2.1 < G.2.2.2.1 ∧ ∀ w ∈ x_nests, va_Nw w U
theorem xRep.set {G : xG} {mem : xM} {H H1 : Heap} {i : Nat} {c0 c1 : va_E} (h : xRep G mem H) (hi : mem[i]? = some c0) (z : H1.size = H.size) (he : va_at G.2.1 vwCl (G.2.2.2.1 + i, x_c G c1) H1) (oq : ∀ q : Nat, q ≠ G.2.2.2.1 + i → H1[q]? = H[q]?) : xRep G (mem.set i c1) H1 := by
  refine ⟨by rw [z, List.length_set]; exact h.1, fun j c hj => ?_⟩
  have hl := (List.getElem?_eq_some_iff.mp hi).1
  by_cases hji : j = i
  · subst hji
    rw [List.getElem?_set_self hl] at hj
    cases hj
    exact he
  · rw [List.getElem?_set_ne (Ne.symm hji)] at hj
    exact (h.2 j c hj).kept (oq (G.2.2.2.1 + j) (by omega))
theorem xRep.push {G : xG} {mem : xM} {H H1 : Heap} {c1 : va_E} (h : xRep G mem H) (z : H1.size = H.size + 1) (he : va_at G.2.1 vwCl (G.2.2.2.1 + mem.length, x_c G c1) H1) (oq : ∀ q : Nat, q < H.size → H1[q]? = H[q]?) : xRep G (mem ++ [c1]) H1 := by
  refine ⟨by rw [z, List.length_append, h.1]; simp only [List.length_cons, List.length_nil]; omega, fun j c hj => ?_⟩
  by_cases hl : j < mem.length
  · rw [List.getElem?_append_left hl] at hj
    exact (h.2 j c hj).kept (oq (G.2.2.2.1 + j) (by rw [h.1]; omega))
  · rw [List.getElem?_append_right (by omega)] at hj
    have hz : j - mem.length < 1 := (List.getElem?_eq_some_iff.mp hj).1
    have e : j = mem.length := by omega
    subst e
    rw [Nat.sub_self] at hj
    cases hj
    exact he
theorem xFr.put {G : xG} {s : State} {H H1 : Heap} {locs : List Loc} {i j : Nat} (h : xFr G s H locs) (oq : ∀ q : Nat, q ≠ G.2.2.2.1 + i → H1[q]? = H[q]?) : xFr G s H1 (locs ++ [⟨G.2.2.2.1 + i, j⟩]) := by
  refine ⟨h.1, fun q hq => ?_, fun q hq => ?_⟩
  · rw [oq q (by omega)]
    exact h.2.1 q hq
  · rcases List.mem_append.mp hq with hq | hq
    · exact h.2.2 q hq
    · rw [List.mem_singleton.mp hq]
      show G.2.2.2.1 ≤ G.2.2.2.1 + i
      omega
theorem xFr.kept {G : xG} {s : State} {H H1 : Heap} {locs : List Loc} (h : xFr G s H locs) (hz : G.2.2.2.1 ≤ H.size) (oq : ∀ q : Nat, q < H.size → H1[q]? = H[q]?) : xFr G s H1 locs :=
  ⟨h.1, fun q hq => by rw [oq q (by omega)]; exact h.2.1 q hq, h.2.2⟩
theorem xRep.one {G : xG} {mem : xM} {H : Heap} {i : Nat} {c : va_E} (h : xRep G mem H) (hi : mem[i]? = some c) : va_P G.2.1 vwCl [(G.2.2.2.1 + i, x_c G c)] H := by
  intro k q hk
  match k, hk with
  | 0, hk => cases hk; exact h.2 i c hi
  | k + 1, hk => simp at hk
/-! locals: a function -/
def x_get : List (Nat × Value) → Nat → Option Value
  | [], _ => none
  | q :: l, i => bif Nat.beq q.1 i then some q.2 else x_get l i
def x_L (l : List (Nat × Value)) : Nat → Option Value := fun i => x_get l i
def x_up (loc : Nat → Option Value) (i : Nat) (v : Value) : Nat → Option Value := fun j => bif Nat.beq i j then some v else loc j
def x_dn (loc : Nat → Option Value) (i : Nat) : Nat → Option Value := fun j => bif Nat.beq i j then none else loc j
def x_c1 : Option Value → Bool
  | some v => Nat.beq v.category 1
  | none => true
def x_p (loc : Nat → Option Value) : Nat → Bool
  | 0 => true
  | j + 1 => x_c1 (loc j)
def x_ls (G : xG) (ls : Array Slot) (nL : Nat) (loc : Nat → Option Value) : Prop := ls.size = nL ∧ lv_wf ls ∧ ∀ (i : Nat) (v : Value), loc i = some v → ls[i]? = some (.val (x_v G v))
theorem x_beq {a b : Nat} : Nat.beq a b = true ↔ a = b := ⟨Nat.eq_of_beq_eq_true, fun h => by subst h; exact Nat.beq_refl a⟩
theorem x_get_mem : ∀ (l : List (Nat × Value)) (i : Nat) (v : Value), x_get l i = some v → (i, v) ∈ l
  | [], i, v, h => by cases h
  | q :: l, i, v, h => by
    unfold x_get at h
    cases hb : Nat.beq q.1 i with
    | true =>
      rw [hb] at h
      cases h
      have e := x_beq.mp hb
      rw [← e]
      exact List.mem_cons_self
    | false =>
      rw [hb] at h
      exact List.mem_cons_of_mem _ (x_get_mem l i v h)
def x_has (loc : Nat → Option Value) : List (Nat × Value) → Prop
  | [] => True
  | q :: l => loc q.1 = some q.2 ∧ x_has loc l
theorem x_has_mem {loc : Nat → Option Value} : ∀ (l : List (Nat × Value)), x_has loc l → ∀ q ∈ l, loc q.1 = some q.2
  | [], _, q, h => by cases h
  | a :: l, h, q, hq => by
    rcases List.mem_cons.mp hq with rfl | hq
    · exact h.1
    · exact x_has_mem l h.2 q hq
theorem x_ls_sub {G : xG} {ls : Array Slot} {nL : Nat} {loc : Nat → Option Value} (h : x_ls G ls nL loc) (l : List (Nat × Value)) (hl : x_has loc l) : x_ls G ls nL (x_L l) :=
  ⟨h.1, h.2.1, fun i v hv => h.2.2 i v (x_has_mem l hl (i, v) (x_get_mem l i v hv))⟩
def x_list (G : xG) (loc : Nat → Option Value) (nL : Nat) : List (Nat × Value) := (List.range nL).filterMap (fun j => (loc j).map (fun v => (j, x_v G v)))
theorem x_ls_list {G : xG} {ls : Array Slot} {nL : Nat} {loc : Nat → Option Value} (h : x_ls G ls nL loc) : lv_has ls nL (x_list G loc nL) := by
  refine ⟨h.1, h.2.1, fun q hq => ?_⟩
  obtain ⟨j, -, hj⟩ := List.mem_filterMap.mp hq
  cases hv : loc j with
  | none => rw [hv] at hj; cases hj
  | some v =>
    rw [hv] at hj
    cases hj
    exact h.2.2 j v hv
theorem x_list_mem {G : xG} {ls : Array Slot} {nL : Nat} {loc : Nat → Option Value} (h : x_ls G ls nL loc) {i : Nat} {v : Value} (hv : loc i = some v) : (i, x_v G v) ∈ x_list G loc nL := by
  have hi : i < nL := by rw [← h.1]; exact lv_lt (h.2.2 i v hv)
  exact List.mem_filterMap.mpr ⟨i, List.mem_range.mpr hi, by rw [hv]; rfl⟩
theorem x_c1_ok {v : Value} (h : x_c1 (some v) = true) : v.category = 1 := x_beq.mp h
theorem x_ls_up {G : xG} {ls ls' : Array Slot} {nL i : Nat} {loc : Nat → Option Value} {w : Value} (h : x_ls G ls nL loc) (hp : x_p loc i = true)
    (h' : lv_has ls' nL ((i, x_v G w) :: (x_list G loc nL).filter (fun q => !(q.1 == i) && !(q.1 + 1 == i && q.2.category == 2)))) : x_ls G ls' nL (x_up loc i w) := by
  refine ⟨h'.1, h'.2.1, fun j v hv => ?_⟩
  unfold x_up at hv
  cases hb : Nat.beq i j with
  | true =>
    rw [hb] at hv
    cases hv
    have e := x_beq.mp hb
    subst e
    exact h'.2.2 _ List.mem_cons_self
  | false =>
    rw [hb] at hv
    have hv : loc j = some v := hv
    have hne : ¬ j = i := fun e => by rw [e, x_beq.mpr rfl] at hb; cases hb
    refine h'.2.2 (j, x_v G v) (List.mem_cons_of_mem _ (List.mem_filter.mpr ⟨x_list_mem h hv, ?_⟩))
    have h1 : (j == i) = false := by simpa using hne
    by_cases h2 : j + 1 = i
    · subst h2
      have h3 : v.category = 1 := x_c1_ok (by rw [← hv]; exact hp)
      have h4 : ((x_v G v).category == 2) = false := by rw [x_cat, h3]; rfl
      simp [h1, h4]
    · have h3 : (j + 1 == i) = false := by simpa using h2
      simp [h1, h3]
theorem x_ls_up2 {G : xG} {ls ls' : Array Slot} {nL i : Nat} {loc : Nat → Option Value} {w : Value} (h : x_ls G ls nL loc) (hp : x_p loc i = true)
    (h' : lv_has ls' nL ((i, x_v G w) :: (x_list G loc nL).filter (fun q => !(q.1 == i) && (!(q.1 == i + 1) && !(q.1 + 1 == i && q.2.category == 2))))) : x_ls G ls' nL (x_up (x_dn loc (i + 1)) i w) := by
  refine ⟨h'.1, h'.2.1, fun j v hv => ?_⟩
  unfold x_up x_dn at hv
  cases hb : Nat.beq i j with
  | true =>
    rw [hb] at hv
    cases hv
    have e := x_beq.mp hb
    subst e
    exact h'.2.2 _ List.mem_cons_self
  | false =>
    rw [hb] at hv
    cases hb2 : Nat.beq (i + 1) j with
    | true => rw [hb2] at hv; cases hv
    | false =>
      rw [hb2] at hv
      have hv : loc j = some v := hv
      have hne : ¬ j = i := fun e => by rw [e, x_beq.mpr rfl] at hb; cases hb
      have hne2 : ¬ j = i + 1 := fun e => by rw [e, x_beq.mpr rfl] at hb2; cases hb2
      refine h'.2.2 (j, x_v G v) (List.mem_cons_of_mem _ (List.mem_filter.mpr ⟨x_list_mem h hv, ?_⟩))
      have h1 : (j == i) = false := by simpa using hne
      have h5 : (j == i + 1) = false := by simpa using hne2
      by_cases h2 : j + 1 = i
      · subst h2
        have h3 : v.category = 1 := x_c1_ok (by rw [← hv]; exact hp)
        have h4 : ((x_v G v).category == 2) = false := by rw [x_cat, h3]; rfl
        simp [h1, h4, h5]
      · have h3 : (j + 1 == i) = false := by simpa using h2
        simp [h1, h3, h5]
/-! a run -/
def xRet (G : xG) (k : xI) (R : Option Value → xM → Prop) (p : Program) (e : Env) (s : State) (m : MethodId) (args : Array Value) (below : List Frame) (meth : Method) (c : Code) (Q : State → Prop) : Prop :=
  (∀ (x : Int32) (mem : xM) (H : Heap) (locs : List Loc) (ls : Array Slot) (pc : Nat), decode k.2.1 pc = .ok (.ireturn, 1) → (∃ ty : FieldType, k.2.2.2.1 = some ty ∧ narrow ty (.int x) = .int x) → R (some (.int x)) mem → xRep G mem H → xFr G s H locs → W p G.1 e (x_rm k) s m args below meth c H locs k.2.2.2.2.2.2.1 k.2.2.2.2.2.2.2 Q (F0 m pc ls [.int x])) ∧
  (∀ (mem : xM) (H : Heap) (locs : List Loc) (ls : Array Slot) (pc : Nat), decode k.2.1 pc = .ok (.return_, 1) → k.2.2.2.1 = none → R none mem → xRep G mem H → xFr G s H locs → W p G.1 e (x_rm k) s m args below meth c H locs k.2.2.2.2.2.2.1 k.2.2.2.2.2.2.2 Q (F0 m pc ls [])) ∧
  (∀ (x : Int64) (mem : xM) (H : Heap) (locs : List Loc) (ls : Array Slot) (pc : Nat), decode k.2.1 pc = .ok (.lreturn, 1) → k.2.2.2.1 = some .long → R (some (.long x)) mem → xRep G mem H → xFr G s H locs → W p G.1 e (x_rm k) s m args below meth c H locs k.2.2.2.2.2.2.1 k.2.2.2.2.2.2.2 Q (F0 m pc ls [.long x]))
def xFix (G : xG) (k : xI) (R : Option Value → xM → Prop) (p : Program) (e : Env) (s : State) (m : MethodId) (args : Array Value) (below : List Frame) (meth : Method) (c : Code) (Q : State → Prop) : Prop :=
  p.tables.exec = Jvm.exec ∧ c.code = k.2.1 ∧ c.maxLocals = k.2.2.1 ∧ s.vm.findClass k.1.cls = some m.cls ∧ (∀ w ∈ x_tbl, w.before args s = true) ∧ meth.name = k.1.name ∧ xEn G s ∧ xRet G k R p e s m args below meth c Q
def E (G : xG) (k : xI) (R : Option Value → xM → Prop) (ce sl : Nat) (mem : xM) (pc : Nat) (loc : Nat → Option Value) (st : List Value) : Prop :=
  ∀ (p : Program) (e : Env) (s : State) (m : MethodId) (args : Array Value) (below : List Frame) (meth : Method) (c : Code) (Q : State → Prop), xFix G k R p e s m args below meth c Q →
    ∀ (H : Heap) (locs : List Loc) (ls : Array Slot), xRep G mem H → xFr G s H locs → x_ls G ls k.2.2.1 loc → W p G.1 e (x_rm k) s m args below meth c H locs ce sl Q (F0 m pc ls (st.map (x_v G)))
section X
variable {G : xG} {k : xI} {R : Option Value → xM → Prop} {ce sl : Nat} {mem : xM} {pc : Nat} {loc : Nat → Option Value} {st : List Value}
theorem E_loc (l : List (Nat × Value)) (hl : x_has loc l) (kk : E G k R ce sl mem pc (x_L l) st) : E G k R ce sl mem pc loc st :=
  fun p e s m args below meth c Q hF H locs ls hR hS hL => kk p e s m args below meth c Q hF H locs ls hR hS (x_ls_sub hL l hl)
theorem E_widen {ce' sl' : Nat} (h1 : ce ≤ ce') (h2 : sl ≤ sl') (kk : E G k R ce' sl' mem pc loc st) : E G k R ce sl mem pc loc st :=
  fun p e s m args below meth c Q hF H locs ls hR hS hL => W.widen h1 h2 (kk p e s m args below meth c Q hF H locs ls hR hS hL)
theorem i_lt {x y : Int32} : x < y ↔ x.toInt < y.toInt := Int32.lt_iff_toInt_lt
theorem i_le {x y : Int32} : x ≤ y ↔ x.toInt ≤ y.toInt := Int32.le_iff_toInt_le
theorem i_eq {x y : Int32} : x = y ↔ x.toInt = y.toInt := Int32.toInt_inj.symm
theorem E_topi {x : Int32} (kk : ∀ y : Int32, y = x → E G k R ce sl mem pc loc (.int y :: st)) : E G k R ce sl mem pc loc (.int x :: st) := kk x rfl

theorem E_iconst {n : Int} {v : Int32} (hd : decode k.2.1 pc = .ok (.iconst n, 1)) (hv : Int32.ofInt n = v) (kk : E G k R ce sl mem (pc + 1) loc (.int v :: st)) : E G k R ce sl mem pc loc (st) := by
  intro p e s m args below meth c Q hF H locs ls hR hS hL
  obtain ⟨hx, hb, -⟩ := id hF
  exact lv_iconst hx hb hd hv (kk p e s m args below meth c Q hF H locs ls hR hS hL)
theorem E_bipush {n : Int} {v : Int32} (hd : decode k.2.1 pc = .ok (.bipush n, 2)) (hv : (Int8.ofInt n).toInt32 = v) (kk : E G k R ce sl mem (pc + 2) loc (.int v :: st)) : E G k R ce sl mem pc loc (st) := by
  intro p e s m args below meth c Q hF H locs ls hR hS hL
  obtain ⟨hx, hb, -⟩ := id hF
  exact lv_bipush hx hb hd hv (kk p e s m args below meth c Q hF H locs ls hR hS hL)
theorem E_sipush {n : Int} {v : Int32} (hd : decode k.2.1 pc = .ok (.sipush n, 3)) (hv : (Int16.ofInt n).toInt32 = v) (kk : E G k R ce sl mem (pc + 3) loc (.int v :: st)) : E G k R ce sl mem pc loc (st) := by
  intro p e s m args below meth c Q hF H locs ls hR hS hL
  obtain ⟨hx, hb, -⟩ := id hF
  exact lv_sipush hx hb hd hv (kk p e s m args below meth c Q hF H locs ls hR hS hL)
theorem E_lconst {n : Fin 2} {v : Int64} (hd : decode k.2.1 pc = .ok (.lconst n, 1)) (hv : Int64.ofNat (n : Nat) = v) (kk : E G k R ce sl mem (pc + 1) loc (.long v :: st)) : E G k R ce sl mem pc loc (st) := by
  intro p e s m args below meth c Q hF H locs ls hR hS hL
  obtain ⟨hx, hb, -⟩ := id hF
  exact lv_lconst hx hb hd hv (kk p e s m args below meth c Q hF H locs ls hR hS hL)
theorem E_iload_n {j : Fin 4} {x : Int32} (hd : decode k.2.1 pc = .ok (.iload_n j, 1)) (hv : loc (j : Nat) = some (.int x)) (kk : E G k R ce sl mem (pc + 1) loc (.int x :: st)) : E G k R ce sl mem pc loc (st) := by
  intro p e s m args below meth c Q hF H locs ls hR hS hL
  obtain ⟨hx, hb, -⟩ := id hF
  exact lv_iload_n hx hb hd rfl (hL.2.2 _ _ hv) (kk p e s m args below meth c Q hF H locs ls hR hS hL)
theorem E_iload {i : Nat} {x : Int32} (hd : decode k.2.1 pc = .ok (.iload i, 2)) (hv : loc i = some (.int x)) (kk : E G k R ce sl mem (pc + 2) loc (.int x :: st)) : E G k R ce sl mem pc loc (st) := by
  intro p e s m args below meth c Q hF H locs ls hR hS hL
  obtain ⟨hx, hb, -⟩ := id hF
  exact lv_iload hx hb hd (hL.2.2 _ _ hv) (kk p e s m args below meth c Q hF H locs ls hR hS hL)
theorem E_lload_n {j : Fin 4} {x : Int64} (hd : decode k.2.1 pc = .ok (.lload_n j, 1)) (hv : loc (j : Nat) = some (.long x)) (kk : E G k R ce sl mem (pc + 1) loc (.long x :: st)) : E G k R ce sl mem pc loc (st) := by
  intro p e s m args below meth c Q hF H locs ls hR hS hL
  obtain ⟨hx, hb, -⟩ := id hF
  exact lv_lload_n hx hb hd rfl (hL.2.2 _ _ hv) (kk p e s m args below meth c Q hF H locs ls hR hS hL)
theorem E_lload {i : Nat} {x : Int64} (hd : decode k.2.1 pc = .ok (.lload i, 2)) (hv : loc i = some (.long x)) (kk : E G k R ce sl mem (pc + 2) loc (.long x :: st)) : E G k R ce sl mem pc loc (st) := by
  intro p e s m args below meth c Q hF H locs ls hR hS hL
  obtain ⟨hx, hb, -⟩ := id hF
  exact lv_lload hx hb hd (hL.2.2 _ _ hv) (kk p e s m args below meth c Q hF H locs ls hR hS hL)
theorem E_aload_n {j : Fin 4} {r : Nat} (hd : decode k.2.1 pc = .ok (.aload_n j, 1)) (hv : loc (j : Nat) = some (.ref r)) (kk : E G k R ce sl mem (pc + 1) loc (.ref r :: st)) : E G k R ce sl mem pc loc (st) := by
  intro p e s m args below meth c Q hF H locs ls hR hS hL
  obtain ⟨hx, hb, -⟩ := id hF
  exact lv_aload_n hx hb hd rfl (hL.2.2 _ _ hv) (kk p e s m args below meth c Q hF H locs ls hR hS hL)
theorem E_aload {i : Nat} {r : Nat} (hd : decode k.2.1 pc = .ok (.aload i, 2)) (hv : loc i = some (.ref r)) (kk : E G k R ce sl mem (pc + 2) loc (.ref r :: st)) : E G k R ce sl mem pc loc (st) := by
  intro p e s m args below meth c Q hF H locs ls hR hS hL
  obtain ⟨hx, hb, -⟩ := id hF
  exact lv_aload hx hb hd (hL.2.2 _ _ hv) (kk p e s m args below meth c Q hF H locs ls hR hS hL)
theorem E_sload_n {j : Fin 4} {r : UInt32} (hd : decode k.2.1 pc = .ok (.aload_n j, 1)) (hv : loc (j : Nat) = some (.float r)) (kk : E G k R ce sl mem (pc + 1) loc (.float r :: st)) : E G k R ce sl mem pc loc (st) := by
  intro p e s m args below meth c Q hF H locs ls hR hS hL
  obtain ⟨hx, hb, -⟩ := id hF
  exact lv_aload_n hx hb hd rfl (hL.2.2 _ _ hv) (kk p e s m args below meth c Q hF H locs ls hR hS hL)
theorem E_sload {i : Nat} {r : UInt32} (hd : decode k.2.1 pc = .ok (.aload i, 2)) (hv : loc i = some (.float r)) (kk : E G k R ce sl mem (pc + 2) loc (.float r :: st)) : E G k R ce sl mem pc loc (st) := by
  intro p e s m args below meth c Q hF H locs ls hR hS hL
  obtain ⟨hx, hb, -⟩ := id hF
  exact lv_aload hx hb hd (hL.2.2 _ _ hv) (kk p e s m args below meth c Q hF H locs ls hR hS hL)
theorem E_iadd {x y : Int32} (hd : decode k.2.1 pc = .ok (.iadd, 1)) (kk : E G k R ce sl mem (pc + 1) loc (.int (x + y) :: st)) : E G k R ce sl mem pc loc (.int y :: .int x :: st) := by
  intro p e s m args below meth c Q hF H locs ls hR hS hL
  obtain ⟨hx, hb, -⟩ := id hF
  exact lv_iadd hx hb hd (kk p e s m args below meth c Q hF H locs ls hR hS hL)
theorem E_isub {x y : Int32} (hd : decode k.2.1 pc = .ok (.isub, 1)) (kk : E G k R ce sl mem (pc + 1) loc (.int (x - y) :: st)) : E G k R ce sl mem pc loc (.int y :: .int x :: st) := by
  intro p e s m args below meth c Q hF H locs ls hR hS hL
  obtain ⟨hx, hb, -⟩ := id hF
  exact lv_isub hx hb hd (kk p e s m args below meth c Q hF H locs ls hR hS hL)
theorem E_imul {x y : Int32} (hd : decode k.2.1 pc = .ok (.imul, 1)) (kk : E G k R ce sl mem (pc + 1) loc (.int (x * y) :: st)) : E G k R ce sl mem pc loc (.int y :: .int x :: st) := by
  intro p e s m args below meth c Q hF H locs ls hR hS hL
  obtain ⟨hx, hb, -⟩ := id hF
  exact lv_imul hx hb hd (kk p e s m args below meth c Q hF H locs ls hR hS hL)
theorem E_iand {x y : Int32} (hd : decode k.2.1 pc = .ok (.iand, 1)) (kk : E G k R ce sl mem (pc + 1) loc (.int (x &&& y) :: st)) : E G k R ce sl mem pc loc (.int y :: .int x :: st) := by
  intro p e s m args below meth c Q hF H locs ls hR hS hL
  obtain ⟨hx, hb, -⟩ := id hF
  exact lv_iand hx hb hd (kk p e s m args below meth c Q hF H locs ls hR hS hL)
theorem E_ior {x y : Int32} (hd : decode k.2.1 pc = .ok (.ior, 1)) (kk : E G k R ce sl mem (pc + 1) loc (.int (x ||| y) :: st)) : E G k R ce sl mem pc loc (.int y :: .int x :: st) := by
  intro p e s m args below meth c Q hF H locs ls hR hS hL
  obtain ⟨hx, hb, -⟩ := id hF
  exact lv_ior hx hb hd (kk p e s m args below meth c Q hF H locs ls hR hS hL)
theorem E_ixor {x y : Int32} (hd : decode k.2.1 pc = .ok (.ixor, 1)) (kk : E G k R ce sl mem (pc + 1) loc (.int (x ^^^ y) :: st)) : E G k R ce sl mem pc loc (.int y :: .int x :: st) := by
  intro p e s m args below meth c Q hF H locs ls hR hS hL
  obtain ⟨hx, hb, -⟩ := id hF
  exact lv_ixor hx hb hd (kk p e s m args below meth c Q hF H locs ls hR hS hL)
theorem E_ineg {x : Int32} (hd : decode k.2.1 pc = .ok (.ineg, 1)) (kk : E G k R ce sl mem (pc + 1) loc (.int (-x) :: st)) : E G k R ce sl mem pc loc (.int x :: st) := by
  intro p e s m args below meth c Q hF H locs ls hR hS hL
  obtain ⟨hx, hb, -⟩ := id hF
  exact lv_ineg hx hb hd (kk p e s m args below meth c Q hF H locs ls hR hS hL)
theorem E_ishl {x y : Int32} (hd : decode k.2.1 pc = .ok (.ishl, 1)) (kk : E G k R ce sl mem (pc + 1) loc (.int (x <<< (y &&& 31)) :: st)) : E G k R ce sl mem pc loc (.int y :: .int x :: st) := by
  intro p e s m args below meth c Q hF H locs ls hR hS hL
  obtain ⟨hx, hb, -⟩ := id hF
  exact lv_ishl hx hb hd (kk p e s m args below meth c Q hF H locs ls hR hS hL)
theorem E_ishr {x y : Int32} (hd : decode k.2.1 pc = .ok (.ishr, 1)) (kk : E G k R ce sl mem (pc + 1) loc (.int (x >>> (y &&& 31)) :: st)) : E G k R ce sl mem pc loc (.int y :: .int x :: st) := by
  intro p e s m args below meth c Q hF H locs ls hR hS hL
  obtain ⟨hx, hb, -⟩ := id hF
  exact lv_ishr hx hb hd (kk p e s m args below meth c Q hF H locs ls hR hS hL)
theorem E_ladd {x y : Int64} (hd : decode k.2.1 pc = .ok (.ladd, 1)) (kk : E G k R ce sl mem (pc + 1) loc (.long (x + y) :: st)) : E G k R ce sl mem pc loc (.long y :: .long x :: st) := by
  intro p e s m args below meth c Q hF H locs ls hR hS hL
  obtain ⟨hx, hb, -⟩ := id hF
  exact lv_ladd hx hb hd (kk p e s m args below meth c Q hF H locs ls hR hS hL)
theorem E_lsub {x y : Int64} (hd : decode k.2.1 pc = .ok (.lsub, 1)) (kk : E G k R ce sl mem (pc + 1) loc (.long (x - y) :: st)) : E G k R ce sl mem pc loc (.long y :: .long x :: st) := by
  intro p e s m args below meth c Q hF H locs ls hR hS hL
  obtain ⟨hx, hb, -⟩ := id hF
  exact lv_lsub hx hb hd (kk p e s m args below meth c Q hF H locs ls hR hS hL)
theorem E_land {x y : Int64} (hd : decode k.2.1 pc = .ok (.land, 1)) (kk : E G k R ce sl mem (pc + 1) loc (.long (x &&& y) :: st)) : E G k R ce sl mem pc loc (.long y :: .long x :: st) := by
  intro p e s m args below meth c Q hF H locs ls hR hS hL
  obtain ⟨hx, hb, -⟩ := id hF
  exact lv_land hx hb hd (kk p e s m args below meth c Q hF H locs ls hR hS hL)
theorem E_lor {x y : Int64} (hd : decode k.2.1 pc = .ok (.lor, 1)) (kk : E G k R ce sl mem (pc + 1) loc (.long (x ||| y) :: st)) : E G k R ce sl mem pc loc (.long y :: .long x :: st) := by
  intro p e s m args below meth c Q hF H locs ls hR hS hL
  obtain ⟨hx, hb, -⟩ := id hF
  exact lv_lor hx hb hd (kk p e s m args below meth c Q hF H locs ls hR hS hL)
theorem E_irem {x y : Int32} (hd : decode k.2.1 pc = .ok (.irem, 1)) (hne : ¬ y = 0) (kk : E G k R ce sl mem (pc + 1) loc (.int (x - x / y * y) :: st)) : E G k R ce sl mem pc loc (.int y :: .int x :: st) := by
  intro p e s m args below meth c Q hF H locs ls hR hS hL
  obtain ⟨hx, hb, -⟩ := id hF
  exact lv_irem hx hb hd hne (kk p e s m args below meth c Q hF H locs ls hR hS hL)
theorem E_iushr {x y v : Int32} (hd : decode k.2.1 pc = .ok (.iushr, 1)) (hv : (x.toUInt32 >>> (y.toUInt32 &&& Int32.toUInt32 31)).toInt32 = v) (kk : E G k R ce sl mem (pc + 1) loc (.int v :: st)) : E G k R ce sl mem pc loc (.int y :: .int x :: st) := by
  intro p e s m args below meth c Q hF H locs ls hR hS hL
  obtain ⟨hx, hb, -⟩ := id hF
  exact lv_iushr hx hb hd hv (kk p e s m args below meth c Q hF H locs ls hR hS hL)
theorem E_lushr {x v : Int64} {y : Int32} (hd : decode k.2.1 pc = .ok (.lushr, 1)) (hv : (x.toUInt64 >>> (y.toInt64.toUInt64 &&& Int64.toUInt64 63)).toInt64 = v) (kk : E G k R ce sl mem (pc + 1) loc (.long v :: st)) : E G k R ce sl mem pc loc (.int y :: .long x :: st) := by
  intro p e s m args below meth c Q hF H locs ls hR hS hL
  obtain ⟨hx, hb, -⟩ := id hF
  exact lv_lushr hx hb hd hv (kk p e s m args below meth c Q hF H locs ls hR hS hL)
theorem E_lshl {x v : Int64} {y : Int32} (hd : decode k.2.1 pc = .ok (.lshl, 1)) (hv : x <<< (y.toInt64 &&& 63) = v) (kk : E G k R ce sl mem (pc + 1) loc (.long v :: st)) : E G k R ce sl mem pc loc (.int y :: .long x :: st) := by
  intro p e s m args below meth c Q hF H locs ls hR hS hL
  obtain ⟨hx, hb, -⟩ := id hF
  exact lv_lshl hx hb hd hv (kk p e s m args below meth c Q hF H locs ls hR hS hL)
theorem E_lcmp {x y : Int64} (hd : decode k.2.1 pc = .ok (.lcmp, 1)) (kk : E G k R ce sl mem (pc + 1) loc (.int (lg_cmp x y) :: st)) : E G k R ce sl mem pc loc (.long y :: .long x :: st) := by
  intro p e s m args below meth c Q hF H locs ls hR hS hL
  obtain ⟨hx, hb, -⟩ := id hF
  exact W.lcmp hx hb hd (kk p e s m args below meth c Q hF H locs ls hR hS hL)
theorem E_i2c {x v : Int32} (hd : decode k.2.1 pc = .ok (.i2c, 1)) (hv : (x.toUInt32 % 65536).toInt32 = v) (kk : E G k R ce sl mem (pc + 1) loc (.int v :: st)) : E G k R ce sl mem pc loc (.int x :: st) := by
  intro p e s m args below meth c Q hF H locs ls hR hS hL
  obtain ⟨hx, hb, -⟩ := id hF
  exact lv_i2c hx hb hd hv (kk p e s m args below meth c Q hF H locs ls hR hS hL)
theorem E_dup {va : Value} (hd : decode k.2.1 pc = .ok (.dup, 1)) (hva : va.category = 1) (kk : E G k R ce sl mem (pc + 1) loc (va :: va :: st)) : E G k R ce sl mem pc loc (va :: st) := by
  intro p e s m args below meth c Q hF H locs ls hR hS hL
  obtain ⟨hx, hb, -⟩ := id hF
  exact lv_dup hx hb hd (by rw [x_cat]; exact hva) (kk p e s m args below meth c Q hF H locs ls hR hS hL)
theorem E_pop {va : Value} (hd : decode k.2.1 pc = .ok (.pop, 1)) (hva : va.category = 1) (kk : E G k R ce sl mem (pc + 1) loc (st)) : E G k R ce sl mem pc loc (va :: st) := by
  intro p e s m args below meth c Q hF H locs ls hR hS hL
  obtain ⟨hx, hb, -⟩ := id hF
  exact lv_pop hx hb hd (by rw [x_cat]; exact hva) (kk p e s m args below meth c Q hF H locs ls hR hS hL)
theorem E_dup2 {va vb : Value} (hd : decode k.2.1 pc = .ok (.dup2, 1)) (hva : va.category = 1) (hvb : vb.category = 1) (kk : E G k R ce sl mem (pc + 1) loc (va :: vb :: va :: vb :: st)) : E G k R ce sl mem pc loc (va :: vb :: st) := by
  intro p e s m args below meth c Q hF H locs ls hR hS hL
  obtain ⟨hx, hb, -⟩ := id hF
  exact lv_dup2_11 hx hb hd (by rw [x_cat]; exact hva) (by rw [x_cat]; exact hvb) (kk p e s m args below meth c Q hF H locs ls hR hS hL)
theorem E_ldcw {own : String} {index : Nat} {v : Int32} (hd : decode k.2.1 pc = .ok (.ldc_w index, 3)) (hown : k.1.cls = own) (hc : Cond.constant own index v ∈ x_tbl) (kk : E G k R ce sl mem (pc + 3) loc (.int v :: st)) : E G k R ce sl mem pc loc st := by
  intro p e s m args below meth c Q hF H locs ls hR hS hL
  obtain ⟨hx, hb, hml, hw, hts, -⟩ := id hF
  exact lv_ldcw hx hb (by rw [← hown]; exact hw) (hts _ hc) hd (kk p e s m args below meth c Q hF H locs ls hR hS hL)
theorem E_goto {off : Int} {tgt : Nat} (hd : decode k.2.1 pc = .ok (.goto off, 3)) (ht : (pc : Int) + off = (tgt : Int)) (kk : E G k R ce sl mem tgt loc st) : E G k R ce sl mem pc loc st := by
  intro p e s m args below meth c Q hF H locs ls hR hS hL
  obtain ⟨hx, hb, -⟩ := id hF
  exact lv_goto hx hb hd ht (kk p e s m args below meth c Q hF H locs ls hR hS hL)
theorem E_if_eq {x : Int32} {off : Int} {tgt : Nat} (hd : decode k.2.1 pc = .ok (.ifCond .eq off, 3)) (ht : (pc : Int) + off = (tgt : Int)) (kt : x.toInt = 0 → E G k R ce sl mem tgt loc st) (kf : ¬ x.toInt = 0 → E G k R ce sl mem (pc + 3) loc st) : E G k R ce sl mem pc loc (.int x :: st) := by
  intro p e s m args below meth c Q hF H locs ls hR hS hL
  obtain ⟨hx, hb, -⟩ := id hF
  exact lv_if_eq hx hb hd ht (fun h => kt (congrArg Int32.toInt h) p e s m args below meth c Q hF H locs ls hR hS hL) (fun h => kf (fun e => h (Int32.toInt_inj.mp e)) p e s m args below meth c Q hF H locs ls hR hS hL)
theorem E_icmp_eq {x y : Int32} {off : Int} {tgt : Nat} (n : Int) (hn : y.toInt = n) (hd : decode k.2.1 pc = .ok (.if_icmp .eq off, 3)) (ht : (pc : Int) + off = (tgt : Int)) (kt : x.toInt = n → E G k R ce sl mem tgt loc st) (kf : ¬ x.toInt = n → E G k R ce sl mem (pc + 3) loc st) : E G k R ce sl mem pc loc (.int y :: .int x :: st) := by
  subst hn
  intro p e s m args below meth c Q hF H locs ls hR hS hL
  obtain ⟨hx, hb, -⟩ := id hF
  exact lv_icmp_eq hx hb hd ht (fun h => kt (congrArg Int32.toInt h) p e s m args below meth c Q hF H locs ls hR hS hL) (fun h => kf (fun e => h (Int32.toInt_inj.mp e)) p e s m args below meth c Q hF H locs ls hR hS hL)
theorem E_if_ne {x : Int32} {off : Int} {tgt : Nat} (hd : decode k.2.1 pc = .ok (.ifCond .ne off, 3)) (ht : (pc : Int) + off = (tgt : Int)) (kt : ¬ x.toInt = 0 → E G k R ce sl mem tgt loc st) (kf : x.toInt = 0 → E G k R ce sl mem (pc + 3) loc st) : E G k R ce sl mem pc loc (.int x :: st) := by
  intro p e s m args below meth c Q hF H locs ls hR hS hL
  obtain ⟨hx, hb, -⟩ := id hF
  exact lv_if_ne hx hb hd ht (fun h => kt (fun e => h (Int32.toInt_inj.mp e)) p e s m args below meth c Q hF H locs ls hR hS hL) (fun h => kf (congrArg Int32.toInt h) p e s m args below meth c Q hF H locs ls hR hS hL)
theorem E_icmp_ne {x y : Int32} {off : Int} {tgt : Nat} (n : Int) (hn : y.toInt = n) (hd : decode k.2.1 pc = .ok (.if_icmp .ne off, 3)) (ht : (pc : Int) + off = (tgt : Int)) (kt : ¬ x.toInt = n → E G k R ce sl mem tgt loc st) (kf : x.toInt = n → E G k R ce sl mem (pc + 3) loc st) : E G k R ce sl mem pc loc (.int y :: .int x :: st) := by
  subst hn
  intro p e s m args below meth c Q hF H locs ls hR hS hL
  obtain ⟨hx, hb, -⟩ := id hF
  exact lv_icmp_ne hx hb hd ht (fun h => kt (fun e => h (Int32.toInt_inj.mp e)) p e s m args below meth c Q hF H locs ls hR hS hL) (fun h => kf (congrArg Int32.toInt h) p e s m args below meth c Q hF H locs ls hR hS hL)
theorem E_if_lt {x : Int32} {off : Int} {tgt : Nat} (hd : decode k.2.1 pc = .ok (.ifCond .lt off, 3)) (ht : (pc : Int) + off = (tgt : Int)) (kt : x.toInt < 0 → E G k R ce sl mem tgt loc st) (kf : ¬ x.toInt < 0 → E G k R ce sl mem (pc + 3) loc st) : E G k R ce sl mem pc loc (.int x :: st) := by
  intro p e s m args below meth c Q hF H locs ls hR hS hL
  obtain ⟨hx, hb, -⟩ := id hF
  exact lv_if_lt hx hb hd ht (fun h => kt (i_lt.mp h) p e s m args below meth c Q hF H locs ls hR hS hL) (fun h => kf (fun e => h (i_lt.mpr e)) p e s m args below meth c Q hF H locs ls hR hS hL)
theorem E_icmp_lt {x y : Int32} {off : Int} {tgt : Nat} (n : Int) (hn : y.toInt = n) (hd : decode k.2.1 pc = .ok (.if_icmp .lt off, 3)) (ht : (pc : Int) + off = (tgt : Int)) (kt : x.toInt < n → E G k R ce sl mem tgt loc st) (kf : ¬ x.toInt < n → E G k R ce sl mem (pc + 3) loc st) : E G k R ce sl mem pc loc (.int y :: .int x :: st) := by
  subst hn
  intro p e s m args below meth c Q hF H locs ls hR hS hL
  obtain ⟨hx, hb, -⟩ := id hF
  exact lv_icmp_lt hx hb hd ht (fun h => kt (i_lt.mp h) p e s m args below meth c Q hF H locs ls hR hS hL) (fun h => kf (fun e => h (i_lt.mpr e)) p e s m args below meth c Q hF H locs ls hR hS hL)
theorem E_if_ge {x : Int32} {off : Int} {tgt : Nat} (hd : decode k.2.1 pc = .ok (.ifCond .ge off, 3)) (ht : (pc : Int) + off = (tgt : Int)) (kt : 0 ≤ x.toInt → E G k R ce sl mem tgt loc st) (kf : ¬ 0 ≤ x.toInt → E G k R ce sl mem (pc + 3) loc st) : E G k R ce sl mem pc loc (.int x :: st) := by
  intro p e s m args below meth c Q hF H locs ls hR hS hL
  obtain ⟨hx, hb, -⟩ := id hF
  exact lv_if_ge hx hb hd ht (fun h => kt (i_le.mp h) p e s m args below meth c Q hF H locs ls hR hS hL) (fun h => kf (fun e => h (i_le.mpr e)) p e s m args below meth c Q hF H locs ls hR hS hL)
theorem E_icmp_ge {x y : Int32} {off : Int} {tgt : Nat} (n : Int) (hn : y.toInt = n) (hd : decode k.2.1 pc = .ok (.if_icmp .ge off, 3)) (ht : (pc : Int) + off = (tgt : Int)) (kt : n ≤ x.toInt → E G k R ce sl mem tgt loc st) (kf : ¬ n ≤ x.toInt → E G k R ce sl mem (pc + 3) loc st) : E G k R ce sl mem pc loc (.int y :: .int x :: st) := by
  subst hn
  intro p e s m args below meth c Q hF H locs ls hR hS hL
  obtain ⟨hx, hb, -⟩ := id hF
  exact lv_icmp_ge hx hb hd ht (fun h => kt (i_le.mp h) p e s m args below meth c Q hF H locs ls hR hS hL) (fun h => kf (fun e => h (i_le.mpr e)) p e s m args below meth c Q hF H locs ls hR hS hL)
theorem E_if_gt {x : Int32} {off : Int} {tgt : Nat} (hd : decode k.2.1 pc = .ok (.ifCond .gt off, 3)) (ht : (pc : Int) + off = (tgt : Int)) (kt : 0 < x.toInt → E G k R ce sl mem tgt loc st) (kf : ¬ 0 < x.toInt → E G k R ce sl mem (pc + 3) loc st) : E G k R ce sl mem pc loc (.int x :: st) := by
  intro p e s m args below meth c Q hF H locs ls hR hS hL
  obtain ⟨hx, hb, -⟩ := id hF
  exact lv_if_gt hx hb hd ht (fun h => kt (i_lt.mp h) p e s m args below meth c Q hF H locs ls hR hS hL) (fun h => kf (fun e => h (i_lt.mpr e)) p e s m args below meth c Q hF H locs ls hR hS hL)
theorem E_icmp_gt {x y : Int32} {off : Int} {tgt : Nat} (n : Int) (hn : y.toInt = n) (hd : decode k.2.1 pc = .ok (.if_icmp .gt off, 3)) (ht : (pc : Int) + off = (tgt : Int)) (kt : n < x.toInt → E G k R ce sl mem tgt loc st) (kf : ¬ n < x.toInt → E G k R ce sl mem (pc + 3) loc st) : E G k R ce sl mem pc loc (.int y :: .int x :: st) := by
  subst hn
  intro p e s m args below meth c Q hF H locs ls hR hS hL
  obtain ⟨hx, hb, -⟩ := id hF
  exact lv_icmp_gt hx hb hd ht (fun h => kt (i_lt.mp h) p e s m args below meth c Q hF H locs ls hR hS hL) (fun h => kf (fun e => h (i_lt.mpr e)) p e s m args below meth c Q hF H locs ls hR hS hL)
theorem E_if_le {x : Int32} {off : Int} {tgt : Nat} (hd : decode k.2.1 pc = .ok (.ifCond .le off, 3)) (ht : (pc : Int) + off = (tgt : Int)) (kt : x.toInt ≤ 0 → E G k R ce sl mem tgt loc st) (kf : ¬ x.toInt ≤ 0 → E G k R ce sl mem (pc + 3) loc st) : E G k R ce sl mem pc loc (.int x :: st) := by
  intro p e s m args below meth c Q hF H locs ls hR hS hL
  obtain ⟨hx, hb, -⟩ := id hF
  exact lv_if_le hx hb hd ht (fun h => kt (i_le.mp h) p e s m args below meth c Q hF H locs ls hR hS hL) (fun h => kf (fun e => h (i_le.mpr e)) p e s m args below meth c Q hF H locs ls hR hS hL)
theorem E_icmp_le {x y : Int32} {off : Int} {tgt : Nat} (n : Int) (hn : y.toInt = n) (hd : decode k.2.1 pc = .ok (.if_icmp .le off, 3)) (ht : (pc : Int) + off = (tgt : Int)) (kt : x.toInt ≤ n → E G k R ce sl mem tgt loc st) (kf : ¬ x.toInt ≤ n → E G k R ce sl mem (pc + 3) loc st) : E G k R ce sl mem pc loc (.int y :: .int x :: st) := by
  subst hn
  intro p e s m args below meth c Q hF H locs ls hR hS hL
  obtain ⟨hx, hb, -⟩ := id hF
  exact lv_icmp_le hx hb hd ht (fun h => kt (i_le.mp h) p e s m args below meth c Q hF H locs ls hR hS hL) (fun h => kf (fun e => h (i_le.mpr e)) p e s m args below meth c Q hF H locs ls hR hS hL)
theorem E_ifnonnull {r : Nat} {off : Int} {tgt : Nat} (hd : decode k.2.1 pc = .ok (.ifnonnull off, 3)) (ht : (pc : Int) + off = (tgt : Int)) (kk : E G k R ce sl mem tgt loc st) : E G k R ce sl mem pc loc (.ref r :: st) := by
  intro p e s m args below meth c Q hF H locs ls hR hS hL
  obtain ⟨hx, hb, -⟩ := id hF
  exact lv_ifnonnull hx hb hd ht (kk p e s m args below meth c Q hF H locs ls hR hS hL)
theorem E_ifnull {r : Nat} {off : Int} (hd : decode k.2.1 pc = .ok (.ifnull off, 3)) (kk : E G k R ce sl mem (pc + 3) loc st) : E G k R ce sl mem pc loc (.ref r :: st) := by
  intro p e s m args below meth c Q hF H locs ls hR hS hL
  obtain ⟨hx, hb, -⟩ := id hF
  exact lv_ifnull hx hb hd (kk p e s m args below meth c Q hF H locs ls hR hS hL)
theorem E_tableOut {dflt lo hi : Int} {offs : Array Int} {len : Nat} {x : Int32} {tgt : Nat} (hd : decode k.2.1 pc = .ok (.tableswitch dflt lo hi offs, len)) (h : x.toInt < lo ∨ hi < x.toInt) (ht : (pc : Int) + dflt = (tgt : Int)) (kk : E G k R ce sl mem tgt loc st) : E G k R ce sl mem pc loc (.int x :: st) := by
  intro p e s m args below meth c Q hF H locs ls hR hS hL
  obtain ⟨hx, hb, -⟩ := id hF
  exact lv_tableOut hx hb hd h ht (kk p e s m args below meth c Q hF H locs ls hR hS hL)
theorem E_tableIn {dflt lo hi : Int} {offs : Array Int} {len : Nat} {x : Int32} {off : Int} {tgt : Nat} (hd : decode k.2.1 pc = .ok (.tableswitch dflt lo hi offs, len)) (h1 : ¬ x.toInt < lo) (h2 : ¬ hi < x.toInt) (ho : offs[(x.toInt - lo).toNat]? = some off) (ht : (pc : Int) + off = (tgt : Int)) (kk : E G k R ce sl mem tgt loc st) : E G k R ce sl mem pc loc (.int x :: st) := by
  intro p e s m args below meth c Q hF H locs ls hR hS hL
  obtain ⟨hx, hb, -⟩ := id hF
  exact lv_tableIn hx hb hd h1 h2 ho ht (kk p e s m args below meth c Q hF H locs ls hR hS hL)
theorem E_lookup {dflt : Int} {ps : Array (Int × Int)} {len : Nat} {x : Int32} {off : Int} {tgt : Nat} (hd : decode k.2.1 pc = .ok (.lookupswitch dflt ps, len)) (hp : (ps.toList.zip (ps.toList.drop 1)).all (fun (a, next) => a.1 < next.1) = true) (ho : Op.lookupswitch.offset ps.toList dflt x.toInt = off) (ht : (pc : Int) + off = (tgt : Int)) (kk : E G k R ce sl mem tgt loc st) : E G k R ce sl mem pc loc (.int x :: st) := by
  intro p e s m args below meth c Q hF H locs ls hR hS hL
  obtain ⟨hx, hb, -⟩ := id hF
  exact lv_lookup hx hb hd hp ho ht (kk p e s m args below meth c Q hF H locs ls hR hS hL)
theorem E_istore_n {j : Fin 4} {x : Int32} (hd : decode k.2.1 pc = .ok (.istore_n j, 1)) (hi : (j : Nat) < k.2.2.1) (hp : x_p loc (j : Nat) = true) (kk : E G k R ce sl mem (pc + 1) (x_up loc (j : Nat) (.int x)) st) : E G k R ce sl mem pc loc (.int x :: st) := by
  intro p e s m args below meth c Q hF H locs ls hR hS hL
  obtain ⟨hx, hb, -⟩ := id hF
  exact lv_istore_n hx hb hd rfl (x_ls_list hL) hi rfl (fun ls1 h1 => kk p e s m args below meth c Q hF H locs ls1 hR hS (x_ls_up hL hp h1))
theorem E_istore {i : Nat} {x : Int32} (hd : decode k.2.1 pc = .ok (.istore i, 2)) (hi : i < k.2.2.1) (hp : x_p loc i = true) (kk : E G k R ce sl mem (pc + 2) (x_up loc i (.int x)) st) : E G k R ce sl mem pc loc (.int x :: st) := by
  intro p e s m args below meth c Q hF H locs ls hR hS hL
  obtain ⟨hx, hb, -⟩ := id hF
  exact lv_istore hx hb hd (x_ls_list hL) hi rfl (fun ls1 h1 => kk p e s m args below meth c Q hF H locs ls1 hR hS (x_ls_up hL hp h1))
theorem E_astore_n {j : Fin 4} {x : Nat} (hd : decode k.2.1 pc = .ok (.astore_n j, 1)) (hi : (j : Nat) < k.2.2.1) (hp : x_p loc (j : Nat) = true) (kk : E G k R ce sl mem (pc + 1) (x_up loc (j : Nat) (.ref x)) st) : E G k R ce sl mem pc loc (.ref x :: st) := by
  intro p e s m args below meth c Q hF H locs ls hR hS hL
  obtain ⟨hx, hb, -⟩ := id hF
  exact lv_astore_n hx hb hd rfl (x_ls_list hL) hi rfl (fun ls1 h1 => kk p e s m args below meth c Q hF H locs ls1 hR hS (x_ls_up hL hp h1))
theorem E_astore {i : Nat} {x : Nat} (hd : decode k.2.1 pc = .ok (.astore i, 2)) (hi : i < k.2.2.1) (hp : x_p loc i = true) (kk : E G k R ce sl mem (pc + 2) (x_up loc i (.ref x)) st) : E G k R ce sl mem pc loc (.ref x :: st) := by
  intro p e s m args below meth c Q hF H locs ls hR hS hL
  obtain ⟨hx, hb, -⟩ := id hF
  exact lv_astore hx hb hd (x_ls_list hL) hi rfl (fun ls1 h1 => kk p e s m args below meth c Q hF H locs ls1 hR hS (x_ls_up hL hp h1))
theorem E_lstore_n {j : Fin 4} {x : Int64} (hd : decode k.2.1 pc = .ok (.lstore_n j, 1)) (hi : (j : Nat) + 1 < k.2.2.1) (hp : x_p loc (j : Nat) = true) (kk : E G k R ce sl mem (pc + 1) (x_up (x_dn loc ((j : Nat) + 1)) (j : Nat) (.long x)) st) : E G k R ce sl mem pc loc (.long x :: st) := by
  intro p e s m args below meth c Q hF H locs ls hR hS hL
  obtain ⟨hx, hb, -⟩ := id hF
  exact lv_lstore_n hx hb hd rfl (x_ls_list hL) hi rfl (fun ls1 h1 => kk p e s m args below meth c Q hF H locs ls1 hR hS (x_ls_up2 hL hp h1))
theorem E_lstore {i : Nat} {x : Int64} (hd : decode k.2.1 pc = .ok (.lstore i, 2)) (hi : i + 1 < k.2.2.1) (hp : x_p loc i = true) (kk : E G k R ce sl mem (pc + 2) (x_up (x_dn loc (i + 1)) i (.long x)) st) : E G k R ce sl mem pc loc (.long x :: st) := by
  intro p e s m args below meth c Q hF H locs ls hR hS hL
  obtain ⟨hx, hb, -⟩ := id hF
  exact lv_lstore hx hb hd (x_ls_list hL) hi rfl (fun ls1 h1 => kk p e s m args below meth c Q hF H locs ls1 hR hS (x_ls_up2 hL hp h1))
theorem E_iinc {i : Nat} {n : Int} {x d : Int32} (hd : decode k.2.1 pc = .ok (.iinc i n, 3)) (hv : loc i = some (.int x)) (hn : Int32.ofInt n = d) (hi : i < k.2.2.1) (hp : x_p loc i = true) (kk : E G k R ce sl mem (pc + 3) (x_up loc i (.int (x + d))) st) : E G k R ce sl mem pc loc st := by
  intro p e s m args below meth c Q hF H locs ls hR hS hL
  obtain ⟨hx, hb, -⟩ := id hF
  subst hn
  obtain ⟨j, hj⟩ := List.getElem?_of_mem (x_list_mem hL hv)
  exact lv_iinc hx hb hd (x_ls_list hL) (k := j) hj rfl hi rfl (fun ls1 h1 => kk p e s m args below meth c Q hF H locs ls1 hR hS (x_ls_up hL hp h1))
theorem E_getf {r ci kf index N : Nat} {own C : String} {T : u_T} {fs : List Value} {v : Value} (hd : decode k.2.1 pc = .ok (.getfield index, 3)) (hin : ∀ w ∈ u_ws C T N, w ∈ x_tbl) (hown : k.1.cls = own) (hc : vwCl[ci]? = some (C, T, N)) (hk : kf < N) (howner : (T kf).1 = C) (hlink : Cond.fieldLink own index C (T kf).2.1 (T kf).2.2.1 ∈ x_tbl) (hm : mem[r]? = some (.inr (ci, fs))) (hv : fs[kf]? = some v) (kk : E G k R ce sl mem (pc + 3) loc (v :: st)) : E G k R ce sl mem pc loc (.ref r :: st) := by
  intro p e s m args below meth c Q hF H locs ls hR hS hL
  obtain ⟨hx, hb, hml, hw, hts, hnm, hE, -⟩ := id hF
  exact va_get (ci := ci) (C := C) (T := T) (N := N) (ref := C) (own := own) (Ts := x_tbl) hx hb hts hin (by rw [← hown]; exact hw) hE.1 (hR.one hm) 0 (fs := fs.map (x_v G)) rfl hc kf hk (hts _ hlink) (fun z hz => by rw [howner] at hz; exact hz) (v := x_v G v) (by rw [List.getElem?_map, hv]; rfl) hd (kk p e s m args below meth c Q hF H locs ls hR hS hL)
theorem E_getfN {r ci kf index N : Nat} {own C host : String} {T : u_T} {fs : List Value} {v : Value} (hd : decode k.2.1 pc = .ok (.getfield index, 3)) (hin : ∀ w ∈ u_ws C T N, w ∈ x_tbl) (hown : k.1.cls = own) (hc : vwCl[ci]? = some (C, T, N)) (hk : kf < N) (howner : (T kf).1 = C) (hlink : Cond.fieldLinkNest own index C (T kf).2.1 (T kf).2.2.1 host ∈ x_nests) (hm : mem[r]? = some (.inr (ci, fs))) (hv : fs[kf]? = some v) (kk : E G k R ce sl mem (pc + 3) loc (v :: st)) : E G k R ce sl mem pc loc (.ref r :: st) := by
  intro p e s m args below meth c Q hF H locs ls hR hS hL
  obtain ⟨hx, hb, hml, hw, hts, hnm, hE, -⟩ := id hF
  exact va_getN (ci := ci) (C := C) (T := T) (N := N) (ref := C) (own := own) (host := host) (Ts := x_tbl) hx hb hts hin (by rw [← hown]; exact hw) hE.1 (hR.one hm) 0 (fs := fs.map (x_v G)) rfl hc kf hk (va_Nw.use rfl (hE.2.2.2.2 _ hlink)) (fun z hz => by rw [howner] at hz; exact hz) (v := x_v G v) (by rw [List.getElem?_map, hv]; rfl) hd (kk p e s m args below meth c Q hF H locs ls hR hS hL)
theorem x_fieldAt {G : xG} {s : State} {args : Array Value} {H : Heap} {mem : xM} {r ci kf N : Nat} {C : String} {T : u_T} {fs : List Value} (hts : ∀ w ∈ x_tbl, w.before args s = true) (hK : va_K G.2.1 vwCl (x_tys G) s) (hR : xRep G mem H) (hin : ∀ w ∈ u_ws C T N, w ∈ x_tbl) (hc : vwCl[ci]? = some (C, T, N)) (hk : kf < N) (hm : mem[r]? = some (.inr (ci, fs))) : ∃ cell : Cell, H[G.2.2.2.1 + r]? = some cell ∧ cell.cls = G.2.1.1 ci ∧ cell.vm = .none ∧ ∀ j, j < N → cell.slots[G.2.1.2 ci j]? = some (vp_V (fs.map (x_v G)) j) := by
  obtain ⟨q, h1, h2⟩ := hR.2 r _ hm
  have e : q = (C, T, N) := Option.some.inj (h1.symm.trans hc)
  subst e
  exact h2
theorem E_putf {r ci kf index N : Nat} {own C : String} {T : u_T} {fs : List Value} {v : Value} {ty0 : Nat → FieldType} (hd : decode k.2.1 pc = .ok (.putfield index, 3)) (hin : ∀ w ∈ u_ws C T N, w ∈ x_tbl) (hty : ∀ k, k < N → parseFieldDescriptor (T k).2.2.1 = some (ty0 k)) (hnm : ∀ a, a < N → ∀ b, b < N → a ≠ b → (T a).2.1 ≠ (T b).2.1) (hown : k.1.cls = own) (hc : vwCl[ci]? = some (C, T, N)) (hk : kf < N) (howner : (T kf).1 = C) (hlink : Cond.fieldLink own index C (T kf).2.1 (T kf).2.2.1 ∈ x_tbl) (hfin : (T kf).2.2.2 = false) (hm : mem[r]? = some (.inr (ci, fs))) (hn : narrow (ty0 kf) (x_v G v) = x_v G v) (hfit : fits (ty0 kf) (x_v G v) = true) (hl : kf < fs.length) (kk : E G k R ce sl (mem.set r (.inr (ci, fs.set kf v))) (pc + 3) loc st) : E G k R ce sl mem pc loc (v :: .ref r :: st) := by
  intro p e s m args below meth c Q hF H locs ls hR hS hL
  obtain ⟨hx, hb, hml, hw, hts, hme, hE, -⟩ := id hF
  have hK := hE.1
  have hw' : s.vm.findClass own = some m.cls := by rw [← hown]; exact hw
  have hap := va_apart (own := own) hts hin ty0 hty hnm hK hc
  obtain ⟨cell, q1, q2, q3, q4⟩ := x_fieldAt hts hK hR hin hc hk hm
  obtain ⟨hSl, hfc, kC, hkC, hkind⟩ := hK.1 ci _ hc
  obtain ⟨cf, kfc, fi, f, hi, hsl⟩ := hSl kf hk
  have hlay := hts _ (hin _ (u_in_lay hk))
  unfold u_lay at hlay
  rw [if_neg (by rw [hfin]; decide)] at hlay
  have hst := (u_facts hfc hkC (u_lays hts hin hk) hi).1
  have h6 := u_store hfc hkC hkind hlay hi (hty kf hk) hn hfit
  refine W.putK hx hb (f := f) ⟨hw', hts _ hlink, ⟨_, _, _, by rw [← howner]; exact hi⟩, hst⟩ (by rw [q2]; exact h6) q1 q3 (by rw [hsl]; exact k2_hasslot (q4 kf hk)) rfl rfl hd fun H' e1 e2 e3 => ?_
  rw [hsl] at e1 ⊢
  refine kk p e s m args below meth c Q hF H' _ ls (hR.set hm e2 ⟨_, hc, ?_⟩ e3) (hS.put e3) hL
  refine t_OB.to (V := updV (vp_V (fs.map (x_v G))) kf (x_v G v)) ⟨_, e1, q2, q3, t_set q4 hap hk (x_v G v)⟩ (fun j _ => ?_)
  rw [vp_updV_set (by rw [List.length_map]; exact hl), List.map_set]
theorem E_putF {r ci kf index N : Nat} {own C : String} {T : u_T} {fs : List Value} {v : Value} {ty0 : Nat → FieldType} (hd : decode k.2.1 pc = .ok (.putfield index, 3)) (hin : ∀ w ∈ u_ws C T N, w ∈ x_tbl) (hty : ∀ k, k < N → parseFieldDescriptor (T k).2.2.1 = some (ty0 k)) (hnm : ∀ a, a < N → ∀ b, b < N → a ≠ b → (T a).2.1 ≠ (T b).2.1) (hown : k.1.cls = own) (hinit : k.1.name = "<init>") (hc : vwCl[ci]? = some (C, T, N)) (hk : kf < N) (howner : (T kf).1 = own) (hCo : C = own) (hlink : Cond.fieldLink own index C (T kf).2.1 (T kf).2.2.1 ∈ x_tbl) (hfin : (T kf).2.2.2 = true) (hm : mem[r]? = some (.inr (ci, fs))) (hn : narrow (ty0 kf) (x_v G v) = x_v G v) (hfit : fits (ty0 kf) (x_v G v) = true) (hl : kf < fs.length) (kk : E G k R ce sl (mem.set r (.inr (ci, fs.set kf v))) (pc + 3) loc st) : E G k R ce sl mem pc loc (v :: .ref r :: st) := by
  intro p e s m args below meth c Q hF H locs ls hR hS hL
  obtain ⟨hx, hb, hml, hw, hts, hme, hE, -⟩ := id hF
  have hK := hE.1
  have hw' : s.vm.findClass own = some m.cls := by rw [← hown]; exact hw
  have hap := va_apart (own := own) hts hin ty0 hty hnm hK hc
  obtain ⟨cell, q1, q2, q3, q4⟩ := x_fieldAt hts hK hR hin hc hk hm
  obtain ⟨hSl, hfc, kC, hkC, hkind⟩ := hK.1 ci _ hc
  obtain ⟨cf, kfc, fi, f, hi, hsl⟩ := hSl kf hk
  have hlay := hts _ (hin _ (u_in_lay hk))
  unfold u_lay at hlay
  rw [if_pos hfin] at hlay
  have hst := (u_facts hfc hkC (u_lays hts hin hk) hi).1
  have hcf : m.cls = cf := by
    obtain ⟨_, _, c', _, _, _, -, -, hf', -, -, -, hown2, -⟩ := Cond.laysFinal_spec hlay
    have e1 : c' = cf := by have := hi.symm.trans hf'; simp at this; exact this.1.symm
    rw [howner] at hown2
    rw [← e1]; exact Option.some.inj (hw'.symm.trans hown2)
  have h6 := u_fits hfc hkC hkind (Or.inr hlay) hi (hty kf hk) hn hfit
  refine W.putFinK hx hb hw' (hts _ hlink) (by rw [hCo, ← howner]; exact hi) hst hcf (by rw [hme]; exact hinit) (by rw [q2]; exact h6) q1 q3 (by rw [hsl]; exact k2_hasslot (q4 kf hk)) rfl rfl hd fun H' e1 e2 e3 => ?_
  rw [hsl] at e1 ⊢
  refine kk p e s m args below meth c Q hF H' _ ls (hR.set hm e2 ⟨_, hc, ?_⟩ e3) (hS.put e3) hL
  refine t_OB.to (V := updV (vp_V (fs.map (x_v G))) kf (x_v G v)) ⟨_, e1, q2, q3, t_set q4 hap hk (x_v G v)⟩ (fun j _ => ?_)
  rw [vp_updV_set (by rw [List.length_map]; exact hl), List.map_set]
theorem E_iald {r n : Nat} {f : Nat → Int32} {i : Int32} (hd : decode k.2.1 pc = .ok (.iaload, 1)) (hm : mem[r]? = some (.inl (0, n, .inl f))) (hi : vp_in i n) (kk : E G k R ce sl mem (pc + 1) loc (.int (f i.toNatClampNeg) :: st)) : E G k R ce sl mem pc loc (.int i :: .ref r :: st) := by
  intro p e s m args below meth c Q hF H locs ls hR hS hL
  obtain ⟨hx, hb, hml, hw, hts, hnm, hE, -⟩ := id hF
  exact va_iald (tys := x_tys G) hx hb hE.1 (hR.one hm) 0 0 rfl rfl hi hd (kk p e s m args below meth c Q hF H locs ls hR hS hL)
theorem E_zald {r n : Nat} {f : Nat → Int32} {i : Int32} (hd : decode k.2.1 pc = .ok (.baload, 1)) (hm : mem[r]? = some (.inl (1, n, .inl f))) (hi : vp_in i n) (kk : E G k R ce sl mem (pc + 1) loc (.int (f i.toNatClampNeg) :: st)) : E G k R ce sl mem pc loc (.int i :: .ref r :: st) := by
  intro p e s m args below meth c Q hF H locs ls hR hS hL
  obtain ⟨hx, hb, hml, hw, hts, hnm, hE, -⟩ := id hF
  exact va_zald (tys := x_tys G) hx hb hE.1 (hR.one hm) 0 1 rfl rfl hi hd (kk p e s m args below meth c Q hF H locs ls hR hS hL)
theorem E_cald {r n : Nat} {f : Nat → Int32} {i : Int32} (hd : decode k.2.1 pc = .ok (.caload, 1)) (hm : mem[r]? = some (.inl (2, n, .inl f))) (hi : vp_in i n) (kk : E G k R ce sl mem (pc + 1) loc (.int (f i.toNatClampNeg) :: st)) : E G k R ce sl mem pc loc (.int i :: .ref r :: st) := by
  intro p e s m args below meth c Q hF H locs ls hR hS hL
  obtain ⟨hx, hb, hml, hw, hts, hnm, hE, -⟩ := id hF
  exact va_cald (tys := x_tys G) hx hb hE.1 (hR.one hm) 0 2 rfl rfl hi hd (kk p e s m args below meth c Q hF H locs ls hR hS hL)
theorem E_aald {r n : Nat} {f : Nat → Option Nat} {i : Int32} {a : Nat} (hd : decode k.2.1 pc = .ok (.aaload, 1)) (hm : mem[r]? = some (.inl (3, n, .inr (.inr (.inr (.inr f)))))) (hi : vp_in i n) (hv : f i.toNatClampNeg = some a) (kk : E G k R ce sl mem (pc + 1) loc (.ref a :: st)) : E G k R ce sl mem pc loc (.int i :: .ref r :: st) := by
  intro p e s m args below meth c Q hF H locs ls hR hS hL
  obtain ⟨hx, hb, hml, hw, hts, hnm, hE, -⟩ := id hF
  refine va_aldq (tys := x_tys G) hx hb hE.1 (hR.one hm) 0 3 rfl rfl hi hd ?_
  rw [hv]
  exact kk p e s m args below meth c Q hF H locs ls hR hS hL
theorem E_alen {r n t : Nat} {y : (Nat → Int32) ⊕ (Nat → Int64) ⊕ (Nat → UInt32) ⊕ (Nat → UInt64) ⊕ (Nat → Option Nat)} {ty : FieldType} {v : Int32} (hd : decode k.2.1 pc = .ok (.arraylength, 1)) (hm : mem[r]? = some (.inl (t, n, y))) (ht : (x_tys G)[t]? = some (G.2.2.1 t, ty)) (hv : Int32.ofNat n = v) (kk : E G k R ce sl mem (pc + 1) loc (.int v :: st)) : E G k R ce sl mem pc loc (.ref r :: st) := by
  intro p e s m args below meth c Q hF H locs ls hR hS hL
  obtain ⟨hx, hb, hml, hw, hts, hnm, hE, -⟩ := id hF
  refine va_alen (tys := x_tys G) hx hb hE.1 (hR.one hm) 0 t rfl ht (v := v) ?_ hd (kk p e s m args below meth c Q hF H locs ls hR hS hL)
  rw [← hv]
  obtain f | f | f | f | f := y <;> rfl
theorem E_sld {i : Int32} {z : UInt32} (hd : decode k.2.1 pc = .ok (.iaload, 1)) (hi : vp_in i G.2.2.2.2.2.1) (kk : E G k R ce sl mem (pc + 1) loc (.int (G.2.2.2.2.2.2 i.toNatClampNeg) :: st)) : E G k R ce sl mem pc loc (.int i :: .float z :: st) := by
  intro p e s m args below meth c Q hF H locs ls hR hS hL
  obtain ⟨hx, hb, hml, hw, hts, hnm, hE, -⟩ := id hF
  have hbB := hE.2.2.2.1
  exact va_sld (A := fun q => G.2.2.2.1 ≤ q) (H0 := H) hx hb (hE.2.2.1.kept (hS.2.1 _ hbB)) (by rw [hR.1]; omega) (by omega) ⟨Nat.le_refl _, fun _ _ _ => rfl, hS.2.2⟩ hi hd (kk p e s m args below meth c Q hF H locs ls hR hS hL)
theorem E_slen {z : UInt32} {v : Int32} (hd : decode k.2.1 pc = .ok (.arraylength, 1)) (hv : Int32.ofNat G.2.2.2.2.2.1 = v) (kk : E G k R ce sl mem (pc + 1) loc (.int v :: st)) : E G k R ce sl mem pc loc (.float z :: st) := by
  intro p e s m args below meth c Q hF H locs ls hR hS hL
  obtain ⟨hx, hb, hml, hw, hts, hnm, hE, -⟩ := id hF
  have hbB := hE.2.2.2.1
  subst hv
  exact va_slen (A := fun q => G.2.2.2.1 ≤ q) (H0 := H) hx hb (hE.2.2.1.kept (hS.2.1 _ hbB)) (by rw [hR.1]; omega) (by omega) ⟨Nat.le_refl _, fun _ _ _ => rfl, hS.2.2⟩ hd (kk p e s m args below meth c Q hF H locs ls hR hS hL)
theorem E_iast {r n : Nat} {f : Nat → Int32} {i x : Int32} (hd : decode k.2.1 pc = .ok (.iastore, 1)) (hm : mem[r]? = some (.inl (0, n, .inl f))) (hi : vp_in i n) (kk : E G k R ce sl (mem.set r (.inl (0, n, .inl (upd f i.toNatClampNeg x)))) (pc + 1) loc st) : E G k R ce sl mem pc loc (.int x :: .int i :: .ref r :: st) := by
  intro p e s m args below meth c Q hF H locs ls hR hS hL
  obtain ⟨hx, hb, hml, hw, hts, hnm, hE, -⟩ := id hF
  refine W.iast hx hb (hR.one hm 0 _ rfl) ((hE.1.2 0 _ rfl).1 n (fun j => .int (f j))) (fun q => by cases q) (by show ¬ (i < 0 ∨ (arrV _ _ _).slots.size ≤ _); rw [arrV_size]; exact hi) rfl rfl hd fun H1 e z oq => ?_
  refine kk p _ s m args below meth c Q hF H1 _ ls (hR.set hm z ?_ oq) (hS.put oq) hL
  show H1[G.2.2.2.1 + r]? = some (vp_cell _ _)
  rw [e]
  show some ((vp_cell (G.2.2.1 0) (n, .inl f)).setSlot _ _) = some (vp_cell (G.2.2.1 0) (n, .inl (upd f i.toNatClampNeg x)))
  rw [vp_cell_i, vp_cell_i, arrV_store]
  congr 2
  funext q
  by_cases hq : q = i.toNatClampNeg
  · subst hq
    simp [updV, upd]
  · simp [updV, upd, hq]
theorem E_zast {r n : Nat} {f : Nat → Int32} {i x : Int32} (hd : decode k.2.1 pc = .ok (.bastore, 1)) (hm : mem[r]? = some (.inl (1, n, .inl f))) (hi : vp_in i n) (hn : narrow .boolean (.int x) = .int x) (kk : E G k R ce sl (mem.set r (.inl (1, n, .inl (upd f i.toNatClampNeg x)))) (pc + 1) loc st) : E G k R ce sl mem pc loc (.int x :: .int i :: .ref r :: st) := by
  intro p e s m args below meth c Q hF H locs ls hR hS hL
  obtain ⟨hx, hb, hml, hw, hts, hnm, hE, -⟩ := id hF
  refine W.zast hx hb (hR.one hm 0 _ rfl) ((hE.1.2 1 _ rfl).1 n (fun j => .int (f j))) (fun q => by cases q) (by show ¬ (i < 0 ∨ (arrV _ _ _).slots.size ≤ _); rw [arrV_size]; exact hi) rfl rfl hd fun H1 e z oq => ?_
  refine kk p _ s m args below meth c Q hF H1 _ ls (hR.set hm z ?_ oq) (hS.put oq) hL
  show H1[G.2.2.2.1 + r]? = some (vp_cell _ _)
  rw [e, hn]
  show some ((vp_cell (G.2.2.1 1) (n, .inl f)).setSlot _ _) = some (vp_cell (G.2.2.1 1) (n, .inl (upd f i.toNatClampNeg x)))
  rw [vp_cell_i, vp_cell_i, arrV_store]
  congr 2
  funext q
  by_cases hq : q = i.toNatClampNeg
  · subst hq
    simp [updV, upd]
  · simp [updV, upd, hq]
theorem E_cast {r n : Nat} {f : Nat → Int32} {i x : Int32} (hd : decode k.2.1 pc = .ok (.castore, 1)) (hm : mem[r]? = some (.inl (2, n, .inl f))) (hi : vp_in i n) (hn : narrow .char (.int x) = .int x) (kk : E G k R ce sl (mem.set r (.inl (2, n, .inl (upd f i.toNatClampNeg x)))) (pc + 1) loc st) : E G k R ce sl mem pc loc (.int x :: .int i :: .ref r :: st) := by
  intro p e s m args below meth c Q hF H locs ls hR hS hL
  obtain ⟨hx, hb, hml, hw, hts, hnm, hE, -⟩ := id hF
  refine W.cast hx hb (hR.one hm 0 _ rfl) ((hE.1.2 2 _ rfl).1 n (fun j => .int (f j))) (fun q => by cases q) (by show ¬ (i < 0 ∨ (arrV _ _ _).slots.size ≤ _); rw [arrV_size]; exact hi) rfl rfl hd fun H1 e z oq => ?_
  refine kk p _ s m args below meth c Q hF H1 _ ls (hR.set hm z ?_ oq) (hS.put oq) hL
  show H1[G.2.2.2.1 + r]? = some (vp_cell _ _)
  rw [e, hn]
  show some ((vp_cell (G.2.2.1 2) (n, .inl f)).setSlot _ _) = some (vp_cell (G.2.2.1 2) (n, .inl (upd f i.toNatClampNeg x)))
  rw [vp_cell_i, vp_cell_i, arrV_store]
  congr 2
  funext q
  by_cases hq : q = i.toNatClampNeg
  · subst hq
    simp [updV, upd]
  · simp [updV, upd, hq]
theorem E_newi {n : Int32} {N : Nat} (hd : decode k.2.1 pc = .ok (.newarray .int, 2)) (harr : Cond.arrayClass .int ∈ x_tbl) (hn : ¬ n < 0) (hN : n.toNatClampNeg = N) (hbytes : N * componentBytes .int ≤ 536870912) (hc : ce + 1 ≤ k.2.2.2.2.2.2.1) (hs : sl + N ≤ k.2.2.2.2.2.2.2) (kk : E G k R (ce + 1) (sl + N) (mem ++ [.inl (0, N, .inl (fun _ => 0))]) (pc + 2) loc (.ref mem.length :: st)) : E G k R ce sl mem pc loc (.int n :: st) := by
  intro p e s m args below meth c Q hF H locs ls hR hS hL
  obtain ⟨hx, hb, hml, hw, hts, hnm, hE, -⟩ := id hF
  refine va_newaK (atype := .int) (R := x_rm k) hx hb (hts _ harr) (g := F0 m pc ls ((Value.int n :: st).map (x_v G))) rfl hd rfl hn hN hbytes hc hs hR.1 fun H1 cA e1 z1 o1 hAr hNm => ?_
  have hcA : cA = G.2.2.1 0 := Option.some.inj (hNm.symm.trans ((hE.1.2 0 _ rfl).2))
  subst hcA
  refine kk p e s m args below meth c Q hF H1 locs ls (hR.push (by rw [z1, hR.1]) ?_ (fun q hq => o1 q (by rw [← hR.1]; exact hq))) (hS.kept (by rw [hR.1]; omega) (fun q hq => o1 q (by rw [← hR.1]; exact hq))) hL
  show H1[G.2.2.2.1 + mem.length]? = some (vp_cell _ _)
  rw [e1]
  rfl
theorem E_newz {n : Int32} {N : Nat} (hd : decode k.2.1 pc = .ok (.newarray .boolean, 2)) (harr : Cond.arrayClass .boolean ∈ x_tbl) (hn : ¬ n < 0) (hN : n.toNatClampNeg = N) (hbytes : N * componentBytes .boolean ≤ 536870912) (hc : ce + 1 ≤ k.2.2.2.2.2.2.1) (hs : sl + N ≤ k.2.2.2.2.2.2.2) (kk : E G k R (ce + 1) (sl + N) (mem ++ [.inl (1, N, .inl (fun _ => 0))]) (pc + 2) loc (.ref mem.length :: st)) : E G k R ce sl mem pc loc (.int n :: st) := by
  intro p e s m args below meth c Q hF H locs ls hR hS hL
  obtain ⟨hx, hb, hml, hw, hts, hnm, hE, -⟩ := id hF
  refine va_newaK (atype := .boolean) (R := x_rm k) hx hb (hts _ harr) (g := F0 m pc ls ((Value.int n :: st).map (x_v G))) rfl hd rfl hn hN hbytes hc hs hR.1 fun H1 cA e1 z1 o1 hAr hNm => ?_
  have hcA : cA = G.2.2.1 1 := Option.some.inj (hNm.symm.trans ((hE.1.2 1 _ rfl).2))
  subst hcA
  refine kk p e s m args below meth c Q hF H1 locs ls (hR.push (by rw [z1, hR.1]) ?_ (fun q hq => o1 q (by rw [← hR.1]; exact hq))) (hS.kept (by rw [hR.1]; omega) (fun q hq => o1 q (by rw [← hR.1]; exact hq))) hL
  show H1[G.2.2.2.1 + mem.length]? = some (vp_cell _ _)
  rw [e1]
  rfl
theorem E_newc {n : Int32} {N : Nat} (hd : decode k.2.1 pc = .ok (.newarray .char, 2)) (harr : Cond.arrayClass .char ∈ x_tbl) (hn : ¬ n < 0) (hN : n.toNatClampNeg = N) (hbytes : N * componentBytes .char ≤ 536870912) (hc : ce + 1 ≤ k.2.2.2.2.2.2.1) (hs : sl + N ≤ k.2.2.2.2.2.2.2) (kk : E G k R (ce + 1) (sl + N) (mem ++ [.inl (2, N, .inl (fun _ => 0))]) (pc + 2) loc (.ref mem.length :: st)) : E G k R ce sl mem pc loc (.int n :: st) := by
  intro p e s m args below meth c Q hF H locs ls hR hS hL
  obtain ⟨hx, hb, hml, hw, hts, hnm, hE, -⟩ := id hF
  refine va_newaK (atype := .char) (R := x_rm k) hx hb (hts _ harr) (g := F0 m pc ls ((Value.int n :: st).map (x_v G))) rfl hd rfl hn hN hbytes hc hs hR.1 fun H1 cA e1 z1 o1 hAr hNm => ?_
  have hcA : cA = G.2.2.1 2 := Option.some.inj (hNm.symm.trans ((hE.1.2 2 _ rfl).2))
  subst hcA
  refine kk p e s m args below meth c Q hF H1 locs ls (hR.push (by rw [z1, hR.1]) ?_ (fun q hq => o1 q (by rw [← hR.1]; exact hq))) (hS.kept (by rw [hR.1]; omega) (fun q hq => o1 q (by rw [← hR.1]; exact hq))) hL
  show H1[G.2.2.2.1 + mem.length]? = some (vp_cell _ _)
  rw [e1]
  rfl
theorem E_new {ci index N : Nat} {own C : String} {T : u_T} {ty0 : Nat → FieldType} {fs : List Value} (hd : decode k.2.1 pc = .ok (.new index, 3)) (hin : ∀ w ∈ u_ws C T N, w ∈ x_tbl) (hty : ∀ k, k < N → parseFieldDescriptor (T k).2.2.1 = some (ty0 k)) (hown : k.1.cls = own) (hcl : Cond.classLink own index C ∈ x_tbl) (hinst : Cond.instantiable C N ∈ x_tbl) (hini : Cond.initialized C ∈ x_tbl) (hc : vwCl[ci]? = some (C, T, N)) (hfs : ∀ j, j < N → defaultValue (ty0 j) = vp_V (fs.map (x_v G)) j) (hcc : ce + 1 ≤ k.2.2.2.2.2.2.1) (hs : sl + N ≤ k.2.2.2.2.2.2.2) (kk : E G k R (ce + 1) (sl + N) (mem ++ [.inr (ci, fs)]) (pc + 3) loc (.ref mem.length :: st)) : E G k R ce sl mem pc loc st := by
  intro p e s m args below meth c Q hF H locs ls hR hS hL
  obtain ⟨hx, hb, hml, hw, hts, hnm, hE, -⟩ := id hF
  have hKn := hE.1.1 ci _ hc
  refine W.newcK (R := x_rm k) hx hb (by rw [← hown]; exact hw) (hts _ hcl) (hts _ hinst) (hts _ hini) (g := F0 m pc ls (st.map (x_v G))) rfl hd hcc hs hKn.2.1 hR.1 fun H1 kC hkC e1 z1 o1 => ?_
  refine kk p e s m args below meth c Q hF H1 locs ls (hR.push (by rw [z1, hR.1]) ⟨_, hc, (u_born ty0 hts hin hKn hkC e1 hty).to hfs⟩ (fun q hq => o1 q (by rw [← hR.1]; exact hq))) (hS.kept (by rw [hR.1]; omega) (fun q hq => o1 q (by rw [← hR.1]; exact hq))) hL
theorem E_anew {index : Nat} {own : String} {n : Int32} {N : Nat} (hd : decode k.2.1 pc = .ok (.anewarray index, 3)) (hown : k.1.cls = own) (hcl : Cond.classLink own index RX0 ∈ x_tbl) (hn : ¬ n < 0) (hN : n.toNatClampNeg = N) (hbytes : N * 4 ≤ 536870912) (hcc : ce + 1 ≤ k.2.2.2.2.2.2.1) (hs : sl + N ≤ k.2.2.2.2.2.2.2) (kk : E G k R (ce + 1) (sl + N) (mem ++ [.inl (3, N, .inr (.inr (.inr (.inr (fun _ => none)))))]) (pc + 3) loc (.ref mem.length :: st)) : E G k R ce sl mem pc loc (.int n :: st) := by
  intro p e s m args below meth c Q hF H locs ls hR hS hL
  obtain ⟨hx, hb, hml, hw, hts, hnm, hE, -⟩ := id hF
  subst hN
  refine W.anew (R := x_rm k) hx hb (by rw [← hown]; exact hw) (hts _ hcl) (va_AO.use hE.2.1) (g := F0 m pc ls ((Value.int n :: st).map (x_v G))) rfl hd rfl hn hbytes hcc hs fun cA kA comp f1 f2 f3 f4 => ?_
  obtain ⟨kA', comp', g1, g2, g3, g4⟩ := (hE.1.2 3 _ rfl).2
  have hcA : cA = G.2.2.1 3 := Option.some.inj (f1.symm.trans g4)
  subst hcA
  rw [hR.1]
  generalize hH1 : H.push ({ cls := G.2.2.1 3, slots := Array.replicate n.toNatClampNeg .null, vm := .none } : Cell) = H1
  have z1 : H1.size = H.size + 1 := by rw [← hH1, Array.size_push]
  have e1 : H1[H.size]? = some (arrV (G.2.2.1 3) n.toNatClampNeg (fun _ => .null)) := by rw [← hH1, Array.getElem?_push_size, ← arrV_new]
  have o1 : ∀ q : Nat, q < H.size → H1[q]? = H[q]? := fun q hq => by rw [← hH1, Array.getElem?_push, if_neg (Nat.ne_of_lt hq)]
  refine kk p e s m args below meth c Q hF H1 locs ls (hR.push z1 ?_ o1) (hS.kept (by rw [hR.1]; omega) o1) hL
  show H1[G.2.2.2.1 + mem.length]? = some (vp_cell _ _)
  rw [← hR.1, e1]
  rfl
theorem E_aast {r n a : Nat} {f : Nat → Option Nat} {vs : List Value} {i : Int32} (hd : decode k.2.1 pc = .ok (.aastore, 1)) (hm : mem[r]? = some (.inl (3, n, .inr (.inr (.inr (.inr f)))))) (ha : mem[a]? = some (.inr (0, vs))) (hi : vp_in i n) (kk : E G k R ce sl (mem.set r (.inl (3, n, .inr (.inr (.inr (.inr (va_up f i.toNatClampNeg (some a)))))))) (pc + 1) loc st) : E G k R ce sl mem pc loc (.ref a :: .int i :: .ref r :: st) := by
  intro p e s m args below meth c Q hF H locs ls hR hS hL
  obtain ⟨hx, hb, hml, hw, hts, hnm, hE, -⟩ := id hF
  have hlt : i.toNatClampNeg < n := Nat.not_le.mp fun q => hi (Or.inr q)
  have h0 : ¬ i < 0 := fun q => hi (Or.inl q)
  obtain ⟨r', hr', cellV, g1, g2, g3, -⟩ := hR.2 a _ ha
  have hcls := (hE.1.1 0 (RX0, TX0, 13) rfl).2
  obtain ⟨kA, comp, k1, k2, k3, -⟩ := (hE.1.2 3 _ rfl).2
  have hcomp : comp = G.2.1.1 0 := Option.some.inj (k3.symm.trans hcls.1)
  subst hcomp
  obtain ⟨kC, hkC, -⟩ := hcls.2
  refine W.aast hx hb (hR.one hm 0 _ rfl) (fun q h => by cases h) (fun h => by cases h) k1 k2 rfl hkC ⟨h0, by show _ < (arrV _ _ _).slots.size; rw [arrV_size]; exact hlt⟩ g1 (fun q h => by rw [g3] at h; cases h) (by rw [g2]; exact hkC) (by rw [g2]; exact va_assign hcls) rfl rfl hd fun H1 e z oq => ?_
  refine kk p _ s m args below meth c Q hF H1 _ ls (hR.set hm z ?_ oq) (hS.put oq) hL
  show H1[G.2.2.2.1 + r]? = some (vp_cell _ _)
  rw [e]
  show some ((vp_cell (G.2.2.1 3) (n, .inr (.inr (.inr (.inr (fun j => (f j).map (fun i => G.2.2.2.1 + i))))))).setSlot _ _) = some (vp_cell (G.2.2.1 3) (n, .inr (.inr (.inr (.inr (fun j => (va_up f i.toNatClampNeg (some a) j).map (fun i => G.2.2.2.1 + i)))))))
  rw [vp_cell_q, vp_cell_q, arrV_store]
  congr 2
  funext q
  by_cases hq : q = i.toNatClampNeg
  · subst hq
    simp [updV, va_up, va_rf, x_v]
  · simp [updV, va_up, hq]
theorem E_copy {index r0 r n0 n1 t : Nat} {own : String} {ty : FieldType} {f g : Nat → Int32} {sp dp n : Int32} (hd : decode k.2.1 pc = .ok (.invokestatic index, 3)) (hown : k.1.cls = own) (hlink : Cond.methodLink own index arraycopyName ∈ x_tbl) (hnat : Cond.native arraycopyName ∈ x_tbl) (hstat : Cond.static arraycopyName ∈ x_tbl) (hini : Cond.initialized "java/lang/System" ∈ x_tbl) (ht : (x_tys G)[t]? = some (G.2.2.1 t, ty)) (hprim : refKind ty = false) (hm0 : mem[r0]? = some (.inl (t, n0, .inl f))) (hm1 : mem[r]? = some (.inl (t, n1, .inl g))) (h1 : ¬ sp < 0) (h2 : ¬ dp < 0) (h3 : ¬ n < 0) (h4 : sp.toNatClampNeg + n.toNatClampNeg ≤ n0) (h5 : dp.toNatClampNeg + n.toNatClampNeg ≤ n1) (hfit : ∀ i, i < n.toNatClampNeg → fits ty (.int (f (sp.toNatClampNeg + i))) = true) (hframes : 1 ≤ k.2.2.2.2.1) (hlocals : (st.map fun v => v.category).sum + 18 ≤ k.2.2.2.2.2.1) (kk : E G k R ce sl (mem.set r (.inl (t, n1, .inl (va_cpy f g sp.toNatClampNeg dp.toNatClampNeg n.toNatClampNeg)))) (pc + 3) loc st) : E G k R ce sl mem pc loc (.int n :: .int dp :: .ref r :: .int sp :: .ref r0 :: st) := by
  intro p e s m args below meth c Q hF H locs ls hR hS hL
  obtain ⟨hx, hb, hml, hw, hts, hnm, hE, -⟩ := id hF
  have nn : ∀ z : Int32, ¬ z < 0 → z.toInt = (z.toNatClampNeg : Int) := by
    intro z hz
    have hz0 : (0 : Int) ≤ z.toInt := by
      have := Int32.not_lt.mp hz
      simpa using Int32.le_iff_toInt_le.mp this
    show z.toInt = ((z.toInt.toNat : Nat) : Int)
    omega
  intro T hT X
  have hc0 : H[G.2.2.2.1 + r0]? = some (vp_cell (G.2.2.1 t) (n0, .inl f)) := hR.2 r0 _ hm0
  have hc1 : H[G.2.2.2.1 + r]? = some (vp_cell (G.2.2.1 t) (n1, .inl g)) := hR.2 r _ hm1
  obtain ⟨-, k0, hk0, cm0, hkk0⟩ := (hE.1.2 t _ ht).1 n0 (fun j => .int (f j))
  obtain ⟨-, k1, hk1, cm1, hkk1⟩ := (hE.1.2 t _ ht).1 n1 (fun j => .int (g j))
  have hsum : ((st.map (x_v G)).map fun v => v.category).sum = (st.map fun v => v.category).sum := by
    rw [List.map_map]
    congr 1
    exact List.map_congr_left (fun v _ => x_cat G v)
  obtain ⟨vm', X', step⟩ := X.arraycopy hx (by rw [← hown]; exact hw) (hts _ hlink) (hts _ hnat) (hts _ hstat) (hts _ hini) (src := G.2.2.2.1 + r0) (dst := G.2.2.2.1 + r) (cs := vp_cell (G.2.2.1 t) (n0, .inl f)) (cd := vp_cell (G.2.2.1 t) (n1, .inl g)) (srcPos := sp) (destPos := dp) (n := n) (by rw [hT]; exact hc0) (by rw [hT]; exact hc1)
    (fun _ h => by cases h) (fun _ h => by cases h) (fun h => by cases h) (fun h => by cases h) hk0 hk1 hkk0 hkk1 (by simp [hprim]) h1 h2 h3
    (by rw [nn sp h1, nn n h3]; show ¬ _ > ((arrV (G.2.2.1 t) n0 (fun j => .int (f j))).slots.size : Int); rw [arrV_size]; omega)
    (by rw [nn dp h2, nn n h3]; show ¬ _ > ((arrV (G.2.2.1 t) n1 (fun j => .int (g j))).slots.size : Int); rw [arrV_size]; omega)
    (fun vm₁ _ i hi => by
      have e : (vp_cell (G.2.2.1 t) (n0, .inl f)).slots.getD (sp.toNatClampNeg + i) .null = .int (f (sp.toNatClampNeg + i)) := by
        show (arrV (G.2.2.1 t) n0 (fun j => .int (f j))).slots.getD _ _ = _
        rw [Array.getD_eq_getD_getElem?, arrV_read _ _ (by omega)]
        rfl
      refine ⟨?_, ?_⟩
      · rw [e]
        exact hfit i hi
      · rw [e]
        exact trivial)
    (g := F0 m pc ls (.int n :: .int dp :: .ref (G.2.2.2.1 + r) :: .int sp :: .ref (G.2.2.2.1 + r0) :: st.map (x_v G))) rfl (by rw [hml]; exact hL.1) (rest := st.map (x_v G)) rfl (by rw [hb]; exact hd) hframes (by rw [hsum]; show 2 * 0 + _ + (7 + 11) ≤ k.2.2.2.2.2.1; omega)
  have e1 : copied (vp_cell (G.2.2.1 t) (n0, .inl f)) (vp_cell (G.2.2.1 t) (n1, .inl g)) sp dp n = vp_cell (G.2.2.1 t) (n1, .inl (va_cpy f g sp.toNatClampNeg dp.toNatClampNeg n.toNatClampNeg)) := va_copied (fun z => .int z) (G.2.2.1 t) (G.2.2.1 t) f g h4
  rw [e1] at X' step
  have hl : G.2.2.2.1 + r < H.size := (Array.getElem?_eq_some_iff.mp hc1).1
  have hheap : ((T.setVm vm').setCell (G.2.2.2.1 + r) (vp_cell (G.2.2.1 t) (n1, .inl (va_cpy f g sp.toNatClampNeg dp.toNatClampNeg n.toNatClampNeg)))).heap = H.setIfInBounds (G.2.2.2.1 + r) (vp_cell (G.2.2.1 t) (n1, .inl (va_cpy f g sp.toNatClampNeg dp.toNatClampNeg n.toNatClampNeg))) := by rw [← hT]; rfl
  have oq : ∀ q : Nat, q ≠ G.2.2.2.1 + r → (H.setIfInBounds (G.2.2.2.1 + r) (vp_cell (G.2.2.1 t) (n1, .inl (va_cpy f g sp.toNatClampNeg dp.toNatClampNeg n.toNatClampNeg))))[q]? = H[q]? := fun q hq => by simp [Array.getElem?_setIfInBounds, Ne.symm hq]
  obtain ⟨t', a1, b1⟩ := kk p e s m args below meth c Q hF _ _ ls (hR.set hm1 (by simp) (show (H.setIfInBounds (G.2.2.2.1 + r) _)[G.2.2.2.1 + r]? = some _ by simp [Array.getElem?_setIfInBounds, hl]; rfl) oq) ⟨hS.1, fun q hq => by rw [oq q (by omega)]; exact hS.2.1 q hq, fun q hq => by
      rcases List.mem_append.mp hq with h | h
      · exact hS.2.2 q h
      · obtain ⟨z, -, hz⟩ := List.mem_map.mp h
        rw [← hz]
        show G.2.2.2.1 ≤ G.2.2.2.1 + r
        omega⟩ hL _ hheap X'
  exact ⟨t', step t' a1, b1⟩
theorem E_mem {mem' : xM} (e : mem = mem') (kk : E G k R ce sl mem' pc loc st) : E G k R ce sl mem pc loc st := by
  rw [e]
  exact kk
theorem E_ext {r t n : Nat} {f f' : Nat → Int32} (hm : mem[r]? = some (.inl (t, n, .inl f))) (hf : ∀ j, j < n → f j = f' j) (kk : E G k R ce sl (mem.set r (.inl (t, n, .inl f'))) pc loc st) : E G k R ce sl mem pc loc st := by
  intro p e s m args below meth c Q hF H locs ls hR hS hL
  refine kk p e s m args below meth c Q hF H locs ls (hR.set hm rfl ?_ (fun _ _ => rfl)) hS hL
  have h1 : H[G.2.2.2.1 + r]? = some (vp_cell (G.2.2.1 t) (n, .inl f)) := hR.2 r _ hm
  show H[G.2.2.2.1 + r]? = some (vp_cell (G.2.2.1 t) (n, .inl f'))
  rw [h1, vp_cell_i, vp_cell_i]
  have e2 : arrV (G.2.2.1 t) n (fun j => Value.int (f j)) = arrV (G.2.2.1 t) n (fun j => Value.int (f' j)) := by
    unfold arrV
    congr 2
    funext j
    show Value.int (f j.val) = Value.int (f' j.val)
    rw [hf j.val j.isLt]
  rw [e2]
theorem E_copyA {index r0 r N t : Nat} {own : String} {ty : FieldType} {f g : Nat → Int32} {n : Int32} (hd : decode k.2.1 pc = .ok (.invokestatic index, 3)) (hown : k.1.cls = own) (hlink : Cond.methodLink own index arraycopyName ∈ x_tbl) (hnat : Cond.native arraycopyName ∈ x_tbl) (hstat : Cond.static arraycopyName ∈ x_tbl) (hini : Cond.initialized "java/lang/System" ∈ x_tbl) (ht : (x_tys G)[t]? = some (G.2.2.1 t, ty)) (hprim : refKind ty = false) (hm0 : mem[r0]? = some (.inl (t, N, .inl f))) (hm1 : mem[r]? = some (.inl (t, N, .inl g))) (h3 : ¬ n < 0) (hN : n.toNatClampNeg = N) (hfit : ∀ i, i < N → fits ty (.int (f i)) = true) (hframes : 1 ≤ k.2.2.2.2.1) (hlocals : (st.map fun v => v.category).sum + 18 ≤ k.2.2.2.2.2.1) (kk : E G k R ce sl (mem.set r (.inl (t, N, .inl f))) (pc + 3) loc st) : E G k R ce sl mem pc loc (.int n :: .int 0 :: .ref r :: .int 0 :: .ref r0 :: st) := by
  have z0 : (0 : Int32).toNatClampNeg = 0 := by decide
  subst hN
  refine E_copy hd hown hlink hnat hstat hini ht hprim hm0 hm1 (by decide) (by decide) h3 (by rw [z0]; omega) (by rw [z0]; omega) (fun i hi => by rw [z0, Nat.zero_add]; exact hfit i hi) hframes hlocals ?_
  have hl := (List.getElem?_eq_some_iff.mp hm1).1
  refine E_ext (r := r) (t := t) (n := n.toNatClampNeg) (f' := f) (by rw [List.getElem?_set_self hl]) (fun j hj => ?_) ?_
  · rw [z0, va_cpy, if_pos (by omega)]
    congr 1
    omega
  · rw [List.set_set]
    exact kk
theorem E_objInit {idx r : Nat} {own : String} (hd : decode k.2.1 pc = .ok (.invokespecial idx, 3)) (hown : k.1.cls = own) (hlink : Cond.methodLink own idx objectInit ∈ x_tbl) (hinst : Cond.instanceMethod objectInit ∈ x_tbl) (hcode : Cond.code objectInit ⟨#[0xb1]⟩ 1 none ∈ x_tbl) (hframes : 1 ≤ k.2.2.2.2.1) (hlocals : (st.map fun v => v.category).sum + 12 ≤ k.2.2.2.2.2.1) (kk : E G k R ce sl mem (pc + 3) loc st) : E G k R ce sl mem pc loc (.ref r :: st) := by
  intro p e s m args below meth c Q hF H locs ls hR hS hL
  obtain ⟨hx, hb, hml, hw, hts, hnm, hE, -⟩ := id hF
  have hsum : ((st.map (x_v G)).map fun v => v.category).sum = (st.map fun v => v.category).sum := by
    rw [List.map_map]
    congr 1
    exact List.map_congr_left (fun v _ => x_cat G v)
  exact W.objInit (R := x_rm k) hx hb (by rw [← hown]; exact hw) (hts _ hlink) (hts _ hinst) (hts _ hcode) (g := F0 m pc ls ((Value.ref r :: st).map (x_v G))) rfl (by rw [hml]; exact hL.1) rfl hd hframes (by rw [hsum]; show 2 * 0 + _ + 12 ≤ k.2.2.2.2.2.1; omega) (kk p e s m args below meth c Q hF H locs ls hR hS hL)
theorem E_iret {x : Int32} {ty : FieldType} (hd : decode k.2.1 pc = .ok (.ireturn, 1)) (hty : k.2.2.2.1 = some ty) (hn : narrow ty (.int x) = .int x) (hce : ce ≤ k.2.2.2.2.2.2.1) (hsl : sl ≤ k.2.2.2.2.2.2.2) (h : R (some (.int x)) mem) : E G k R ce sl mem pc loc [.int x] := by
  intro p e s m args below meth c Q hF H locs ls hR hS hL
  exact W.widen hce hsl (hF.2.2.2.2.2.2.2.1 x mem H locs ls pc hd ⟨ty, hty, hn⟩ h hR hS)
theorem E_vret (hd : decode k.2.1 pc = .ok (.return_, 1)) (hty : k.2.2.2.1 = none) (hce : ce ≤ k.2.2.2.2.2.2.1) (hsl : sl ≤ k.2.2.2.2.2.2.2) (h : R none mem) : E G k R ce sl mem pc loc [] := by
  intro p e s m args below meth c Q hF H locs ls hR hS hL
  exact W.widen hce hsl (hF.2.2.2.2.2.2.2.2.1 mem H locs ls pc hd hty h hR hS)
theorem E_lret {x : Int64} (hd : decode k.2.1 pc = .ok (.lreturn, 1)) (hty : k.2.2.2.1 = some .long) (hce : ce ≤ k.2.2.2.2.2.2.1) (hsl : sl ≤ k.2.2.2.2.2.2.2) (h : R (some (.long x)) mem) : E G k R ce sl mem pc loc [.long x] := by
  intro p e s m args below meth c Q hF H locs ls hR hS hL
  exact W.widen hce hsl (hF.2.2.2.2.2.2.2.2.2 x mem H locs ls pc hd hty h hR hS)
/-! contracts and calls -/
def x_Q (G : xG) (R : Option Value → xM → Prop) : Array Value → State → Outcome → State → Prop := fun _ st o t => (∃ (v : Option Value) (mem : xM), o = .returned (v.map (x_v G)) ∧ R v mem ∧ xRep G mem t.heap) ∧ ∀ q : Nat, q < G.2.2.2.1 → t.heap[q]? = st.heap[q]?
def x_P (G : xG) (mem : xM) : State → Prop := fun U => xRep G mem U.heap ∧ xEn G U ∧ G.2.2.2.1 ≤ U.heap.size
def Ct (G : xG) (k : xI) (args : List Value) (mem : xM) (R : Option Value → xM → Prop) : Prop := Met G.1 k.1 (x_ws k) (x_rm k) (va_Pc (args.map (x_v G)) (x_P G mem)) (x_Q G R) k.2.2.2.2.2.2.1 k.2.2.2.2.2.2.2 (fun q => G.2.2.2.1 ≤ q)
theorem xEn.moved {u U : State} (hvm : u.vm.Alike U.vm) (hn : ∀ w ∈ x_nests, va_Nw w u → va_Nw w U) (hb : U.heap[G.2.2.2.2.1]? = u.heap[G.2.2.2.2.1]?) (h : xEn G u) : xEn G U := ⟨va_K.moved hvm h.1, va_AO.moved hvm h.2.1, (h.2.2.1.moved hvm).kept hb, h.2.2.2.1, fun w hw => hn w hw (h.2.2.2.2 w hw)⟩
theorem x_args (vs : List Value) : ∀ (i j : Nat) (v : Value), x_get (lv_args i vs) j = some v → (j, x_v G v) ∈ lv_args i (vs.map (x_v G)) := by
  induction vs with
  | nil => intro i j v h; cases h
  | cons a l ih =>
    intro i j v h
    rcases List.mem_cons.mp (x_get_mem _ _ _ h) with e | hm
    · cases e
      exact List.mem_cons_self
    · unfold lv_args x_get at h
      cases hb : Nat.beq i j with
      | true =>
        rw [show Nat.beq (i, a).1 j = true from hb] at h
        cases h
        rw [← x_beq.mp hb]
        exact List.mem_cons_self
      | false =>
        rw [show Nat.beq (i, a).1 j = false from hb] at h
        show (j, x_v G v) ∈ (i, x_v G a) :: lv_args (if (x_v G a).category = 2 then i + 2 else i + 1) (l.map (x_v G))
        rw [x_cat]
        exact List.mem_cons_of_mem _ (ih _ _ _ h)
theorem x_sl (vs : List Value) : (lg_sl (vs.map (x_v G))).length = (lg_sl vs).length := by
  induction vs with
  | nil => rfl
  | cons a l ih =>
    show ((if (x_v G a).category = 2 then [Slot.val (x_v G a), .second] else [.val (x_v G a)]) ++ lg_sl (l.map (x_v G))).length = ((if a.category = 2 then [Slot.val a, .second] else [.val a]) ++ lg_sl l).length
    rw [x_cat, List.length_append, List.length_append, ih]
    by_cases h : a.category = 2 <;> simp [h]
theorem Ct_of {args : List Value} (hp : plainName k.1.cls = true) (hn : (lg_sl args).length ≤ k.2.2.1) (kk : E G k R 0 0 mem 0 (x_L (lv_args 0 args)) []) : Ct G k args mem R := by
  refine Met.ofW (cc := k.2.1) (maxL := k.2.2.1) (ret := k.2.2.2.1) hp rfl ?_
  intro p e s m as below meth c s₁ B hml hv
  obtain ⟨rfl, hR, hE, hB⟩ := hv
  have hts := atoms_spec (ws := x_ws k) B.pre
  have hlocks := B.notSynchronized
  have hl := lv_entry (args.map (x_v G)) (n := k.2.2.1) (by rw [x_sl]; exact hn)
  rw [lg_entry_eq]
  generalize (lg_sl (args.map (x_v G)) ++ List.replicate (k.2.2.1 - (lg_sl (args.map (x_v G))).length) Slot.unset).toArray = ls at hl ⊢
  refine kk p e s m _ below meth c _ ⟨B.exec, B.bytes, hml, findClass_of_methodNamed B.named, fun w h => hts w (List.mem_cons_of_mem _ h), (name_of_methodNamed B.named B.method).1, hE, ?_, ?_, ?_⟩ s.heap [] ls hR ⟨hB, fun _ _ => rfl, fun q h => by cases h⟩ ⟨hl.1, hl.2.1, fun i v h => hl.2.2 (i, x_v G v) (x_args args 0 i v h)⟩
  · intro x mem1 H locs ls1 pc1 hd hty hRx hR1 hS1
    obtain ⟨ty, h1, h2⟩ := hty
    exact W.zret (v := x) B.exec B.bytes (B.returns.trans h1) h2 (fun t ht _ => ⟨⟨some (.int x), mem1, rfl, hRx, by rw [ht]; exact hR1⟩, fun q hq => by rw [ht]; exact hS1.2.1 q hq⟩) hS1.2.2 hd
  · intro mem1 H locs ls1 pc1 hd hty hRx hR1 hS1
    exact W.vret B.exec B.bytes (B.returns.trans hty) (fun t ht _ => ⟨⟨none, mem1, rfl, hRx, by rw [ht]; exact hR1⟩, fun q hq => by rw [ht]; exact hS1.2.1 q hq⟩) hS1.2.2 hd
  · intro x mem1 H locs ls1 pc1 hd hty hRx hR1 hS1
    exact W.lret (v := x) B.exec B.bytes (B.returns.trans hty) (fun t ht _ => ⟨⟨some (.long x), mem1, rfl, hRx, by rw [ht]; exact hR1⟩, fun q hq => by rw [ht]; exact hS1.2.1 q hq⟩) hS1.2.2 hd
theorem Ct.mono {args : List Value} {R' : Option Value → xM → Prop} (h : Ct G k args mem R) (hi : ∀ v m', R v m' → R' v m') : Ct G k args mem R' := by
  unfold Ct Met at h ⊢
  refine MetFree.mono h (fun _ _ q => q) (fun _ _ _ _ _ _ => trivial) ?_
  intro a st o t _ q
  obtain ⟨⟨⟨v, m', e1, e2, e3⟩, hf⟩, hL⟩ := q
  exact ⟨⟨⟨v, m', e1, hi v m' e2, e3⟩, hf⟩, hL⟩
def xOk (k : xI) (n : Nat) : Prop := plainName k.1.cls = true ∧ (k.1.cls ≠ "java/lang/invoke/MethodHandle" ∧ k.1.cls ≠ "java/lang/invoke/VarHandle" ∧ (parseMethodDescriptor k.1.desc).map (fun d => d.parameters.length) = some n) ∧ Cond.code k.1 k.2.1 k.2.2.1 k.2.2.2.1 ∈ x_tbl ∧ Cond.initialized k.1.cls ∈ x_tbl
theorem x_blind {args : List Value} : FrameBlind (va_Pc (args.map (x_v G)) (x_P G mem)) := by
  intro a U g mk q
  obtain ⟨q0, q1, q2, q3⟩ := q
  exact ⟨q0, q1, xEn.moved (u := U) (U := U.calling g mk a) (Vm.Alike.refl U.vm) (fun w hw h => x_nest_same (s := U) (U := U.calling g mk a) hw rfl h) rfl q2, q3⟩
theorem x_pre {args : List Value} {p : Program} {e : Env} {s : State} {m : MethodId} {as : Array Value} {below : List Frame} {meth : Method} {c : Code} {Q : State → Prop} {H : Heap} {locs : List Loc} (hF : xFix G k R p e s m as below meth c Q) (hR : xRep G mem H) (hS : xFr G s H locs) : ∀ U : State, U.heap = H → s.WarmedH U.vm → va_Pc (args.map (x_v G)) (x_P G mem) (args.map (x_v G)).toArray U := by
  intro U hU hW
  have hE := hF.2.2.2.2.2.2.1
  refine ⟨rfl, by rw [hU]; exact hR, xEn.moved hW.alike (fun w hw h => x_nest_warm hw hW h) ?_ hE, by rw [hU, hR.1]; omega⟩
  rw [hU]
  exact hS.2.1 _ hE.2.2.2.1
theorem x_cont {R' : Option Value → xM → Prop} {p : Program} {e : Env} {s : State} {m : MethodId} {as a : Array Value} {below : List Frame} {meth : Method} {c : Code} {Q : State → Prop} {H : Heap} {locs : List Loc} {ls : Array Slot} {st0 : List Value} {mc ms : Nat} (hF : xFix G k R p e s m as below meth c Q) (hR : xRep G mem H) (hS : xFr G s H locs) (hL : x_ls G ls k.2.2.1 loc)
    (hr : va_Run p G.1 e (x_rm k) s m as below meth c H locs ce sl mc ms (F0 m pc ls st0) (st.map (x_v G)) (x_Q G R' a) (fun q => G.2.2.2.1 ≤ q)) (kk : ∀ (v : Option Value) (mem' : xM), R' v mem' → E G k R (ce + mc) (sl + ms) mem' (pc + 3) loc (v.toList ++ st)) : W p G.1 e (x_rm k) s m as below meth c H locs ce sl Q (F0 m pc ls st0) := by
  intro T hT X
  obtain ⟨v, st₀, t, T', L, h0, X', hLl, e1, e2, ⟨⟨v', mem', hv, hRv, hR'⟩, hfr⟩, st1⟩ := hr T hT X
  cases hv
  have hst : (v'.map (x_v G)).toList ++ st.map (x_v G) = (v'.toList ++ st).map (x_v G) := by cases v' <;> rfl
  have hfr' : ∀ q : Nat, q < G.2.2.2.1 → T'.heap[q]? = s.heap[q]? := fun q hq => by rw [e1, hfr q hq, h0]; exact hS.2.1 q hq
  obtain ⟨t2, a1, b1⟩ := kk v' mem' hRv p e s m as below meth c Q hF T'.heap (locs ++ L) ls (by rw [e1]; exact hR') ⟨hS.1, hfr', fun q hq => by
    rcases List.mem_append.mp hq with h | h
    · exact hS.2.2 q h
    · exact hLl q h⟩ hL T' rfl X'
  rw [← hst] at a1
  exact ⟨t2, st1 t2 a1, b1⟩
theorem x_sum (h : (st.map fun v => v.category).sum ≤ 8) : ((st.map (x_v G)).map fun v => v.category).sum ≤ 8 := by
  rw [List.map_map]
  have e : List.map ((fun v => v.category) ∘ x_v G) st = st.map fun v => v.category := List.map_congr_left (fun v _ => x_cat G v)
  rw [e]
  exact h
theorem x_callB {k' : xI} {n idx : Nat} {own : String} {p : Program} {e : Env} {s : State} {m : MethodId} {as : Array Value} {below : List Frame} {meth : Method} {c : Code} {Q : State → Prop} (hF : xFix G k R p e s m as below meth c Q) (hok : xOk k' n) (hlink : Cond.methodLink own idx k'.1 ∈ x_tbl) (hroom : k'.2.2.2.2.1 + 1 ≤ k.2.2.2.2.1 ∧ 8 + (k'.2.2.1 + 11) + k'.2.2.2.2.2.1 ≤ k.2.2.2.2.2.1) : CallB (x_rm k) s as own idx k'.1 k'.2.1 k'.2.2.1 k'.2.2.2.1 (x_ws k') (x_rm k') k'.2.2.2.2.2.2.1 k'.2.2.2.2.2.2.2 n := by
  obtain ⟨hx, hb, hml, hw, hts, hnm, hE, -⟩ := hF
  obtain ⟨h1, h2, h3, h4⟩ := hok
  exact callB_of n hts (x_good h3) rfl rfl rfl (hts _ h4) (hts _ hlink) h2 hroom
theorem E_callV {k' : xI} {R' : Option Value → xM → Prop} {n idx r ci N : Nat} {own C : String} {T : u_T} {fs As : List Value} (hd : decode k.2.1 pc = .ok (.invokevirtual idx, 3)) (hown : k.1.cls = own) (hok : xOk k' n) (hinst : Cond.instanceMethod k'.1 ∈ x_tbl) (hsel : Cond.selects C k'.1 k'.1 ∈ x_tbl) (hlink : Cond.methodLink own idx k'.1 ∈ x_tbl) (hroom : k'.2.2.2.2.1 + 1 ≤ k.2.2.2.2.1 ∧ 8 + (k'.2.2.1 + 11) + k'.2.2.2.2.2.1 ≤ k.2.2.2.2.2.1) (hcs : ce + k'.2.2.2.2.2.2.1 ≤ k.2.2.2.2.2.2.1 ∧ sl + k'.2.2.2.2.2.2.2 ≤ k.2.2.2.2.2.2.2) (hrest : (st.map fun v => v.category).sum ≤ 8) (hm : mem[r]? = some (.inr (ci, fs))) (hc : vwCl[ci]? = some (C, T, N)) (hn : As.length = n) (hC : Ct G k' (.ref r :: As) mem R') (kk : ∀ (v : Option Value) (mem' : xM), R' v mem' → E G k R (ce + k'.2.2.2.2.2.2.1) (sl + k'.2.2.2.2.2.2.2) mem' (pc + 3) loc (v.toList ++ st)) : E G k R ce sl mem pc loc (As.reverse ++ .ref r :: st) := by
  intro p e s m args below meth c Q hF H locs ls hR hS hL
  obtain ⟨hx, hb, hml, hw, hts, hnm, hE, -⟩ := id hF
  have hcb := x_callB hF hok hlink hroom
  have hr := va_runV (l := G.1) (e := e) (below := below) (meth := meth) (R := x_rm k) (H := H) (locs := locs) (cells := ce) (slots := sl) (As := As.map (x_v G)) (rest := st.map (x_v G)) (g := F0 m pc ls ((As.reverse ++ .ref r :: st).map (x_v G))) ⟨hx, hb, hml, by rw [← hown]; exact hw, hts⟩ hC ⟨hcb, hts _ hinst, hts _ hsel⟩ ⟨x_blind, va_recv hE.1 (hR.one hm) (ci := ci) (q0 := 0) (q := (C, T, N)) hc rfl, x_pre hF hR hS⟩ rfl (by rw [List.length_map]; exact hn) hL.1 (by simp [List.map_append, List.map_reverse, x_v]) (lv_room (x_sum hrest)) hd hcs
  exact x_cont hF hR hS hL hr kk
theorem E_callS {k' : xI} {R' : Option Value → xM → Prop} {n idx : Nat} {own : String} {As : List Value} (hd : decode k.2.1 pc = .ok (.invokestatic idx, 3)) (hown : k.1.cls = own) (hok : xOk k' n) (hstat : Cond.static k'.1 ∈ x_tbl) (hlink : Cond.methodLink own idx k'.1 ∈ x_tbl) (hroom : k'.2.2.2.2.1 + 1 ≤ k.2.2.2.2.1 ∧ 8 + (k'.2.2.1 + 11) + k'.2.2.2.2.2.1 ≤ k.2.2.2.2.2.1) (hcs : ce + k'.2.2.2.2.2.2.1 ≤ k.2.2.2.2.2.2.1 ∧ sl + k'.2.2.2.2.2.2.2 ≤ k.2.2.2.2.2.2.2) (hrest : (st.map fun v => v.category).sum ≤ 8) (hn : As.length = n) (hC : Ct G k' As mem R') (kk : ∀ (v : Option Value) (mem' : xM), R' v mem' → E G k R (ce + k'.2.2.2.2.2.2.1) (sl + k'.2.2.2.2.2.2.2) mem' (pc + 3) loc (v.toList ++ st)) : E G k R ce sl mem pc loc (As.reverse ++ st) := by
  intro p e s m args below meth c Q hF H locs ls hR hS hL
  obtain ⟨hx, hb, hml, hw, hts, hnm, hE, -⟩ := id hF
  have hcb := x_callB hF hok hlink hroom
  have hr := va_runS (l := G.1) (e := e) (below := below) (meth := meth) (R := x_rm k) (H := H) (locs := locs) (cells := ce) (slots := sl) (As := As.map (x_v G)) (rest := st.map (x_v G)) (g := F0 m pc ls ((As.reverse ++ st).map (x_v G))) ⟨hx, hb, hml, by rw [← hown]; exact hw, hts⟩ hC ⟨hcb, hts _ hstat⟩ ⟨x_blind, x_pre hF hR hS⟩ rfl (by rw [List.length_map]; exact hn) hL.1 (by simp [List.map_append, List.map_reverse]) (lv_room (x_sum hrest)) hd hcs
  exact x_cont hF hR hS hL hr kk
theorem E_callI {k' : xI} {R' : Option Value → xM → Prop} {n idx r : Nat} {own : String} {As : List Value} (hd : decode k.2.1 pc = .ok (.invokespecial idx, 3)) (hown : k.1.cls = own) (hok : xOk k' n) (hret : k'.2.2.2.1 = none) (hname : k'.1.name = "<init>") (hinst : Cond.instanceMethod k'.1 ∈ x_tbl) (hlink : Cond.methodLink own idx k'.1 ∈ x_tbl) (hroom : k'.2.2.2.2.1 + 1 ≤ k.2.2.2.2.1 ∧ 8 + (k'.2.2.1 + 11) + k'.2.2.2.2.2.1 ≤ k.2.2.2.2.2.1) (hcs : ce + k'.2.2.2.2.2.2.1 ≤ k.2.2.2.2.2.2.1 ∧ sl + k'.2.2.2.2.2.2.2 ≤ k.2.2.2.2.2.2.2) (hrest : (st.map fun v => v.category).sum ≤ 8) (hn : As.length = n) (hC : Ct G k' (.ref r :: As) mem R') (kk : ∀ (v : Option Value) (mem' : xM), R' v mem' → E G k R (ce + k'.2.2.2.2.2.2.1) (sl + k'.2.2.2.2.2.2.2) mem' (pc + 3) loc (v.toList ++ st)) : E G k R ce sl mem pc loc (As.reverse ++ .ref r :: st) := by
  intro p e s m args below meth c Q hF H locs ls hR hS hL
  obtain ⟨hx, hb, hml, hw, hts, hnm, hE, -⟩ := id hF
  have hcb := x_callB hF hok hlink hroom
  rw [hret] at hcb
  have hr := va_runI (l := G.1) (e := e) (below := below) (meth := meth) (R := x_rm k) (H := H) (locs := locs) (cells := ce) (slots := sl) (As := As.map (x_v G)) (rest := st.map (x_v G)) (g := F0 m pc ls ((As.reverse ++ .ref r :: st).map (x_v G))) ⟨hx, hb, hml, by rw [← hown]; exact hw, hts⟩ hC ⟨hcb, hname, hts _ hinst⟩ ⟨x_blind, x_pre (args := .ref r :: As) hF hR hS⟩ rfl (by rw [List.length_map]; exact hn) hL.1 (by simp [List.map_append, List.map_reverse, x_v]) (lv_room (x_sum hrest)) hd hcs
  exact x_cont hF hR hS hL hr kk
theorem x_callN {k' : xI} {n idx : Nat} {own host : String} {p : Program} {e : Env} {s : State} {m : MethodId} {as : Array Value} {below : List Frame} {meth : Method} {c : Code} {Q : State → Prop} (hF : xFix G k R p e s m as below meth c Q) (hok : xOk k' n) (hlink : Cond.methodLinkNest own idx k'.1 host ∈ x_nests) (hroom : k'.2.2.2.2.1 + 1 ≤ k.2.2.2.2.1 ∧ 8 + (k'.2.2.1 + 11) + k'.2.2.2.2.2.1 ≤ k.2.2.2.2.2.1) : va_CN (x_rm k) s as own idx k'.1 host k'.2.1 k'.2.2.1 k'.2.2.2.1 (x_ws k') (x_rm k') k'.2.2.2.2.2.2.1 k'.2.2.2.2.2.2.2 n := by
  obtain ⟨hx, hb, hml, hw, hts, hnm, hE, -⟩ := hF
  obtain ⟨h1, h2, h3, h4⟩ := hok
  refine ⟨⟨rfl, rfl, hroom.1, hroom.2, pay_in hts (x_good h3), List.mem_cons_self⟩, hts _ h3, hts _ h4, ⟨h2.1, h2.2.1⟩, fun sig h => ?_, va_Nw.use rfl (hE.2.2.2.2 _ hlink)⟩
  have h5 := h2.2.2
  rw [h] at h5
  exact (Option.some.inj h5).symm
theorem E_callSN {k' : xI} {R' : Option Value → xM → Prop} {n idx : Nat} {own host : String} {As : List Value} (hd : decode k.2.1 pc = .ok (.invokestatic idx, 3)) (hown : k.1.cls = own) (hok : xOk k' n) (hstat : Cond.static k'.1 ∈ x_tbl) (hlink : Cond.methodLinkNest own idx k'.1 host ∈ x_nests) (hroom : k'.2.2.2.2.1 + 1 ≤ k.2.2.2.2.1 ∧ 8 + (k'.2.2.1 + 11) + k'.2.2.2.2.2.1 ≤ k.2.2.2.2.2.1) (hcs : ce + k'.2.2.2.2.2.2.1 ≤ k.2.2.2.2.2.2.1 ∧ sl + k'.2.2.2.2.2.2.2 ≤ k.2.2.2.2.2.2.2) (hrest : (st.map fun v => v.category).sum ≤ 8) (hn : As.length = n) (hC : Ct G k' As mem R') (kk : ∀ (v : Option Value) (mem' : xM), R' v mem' → E G k R (ce + k'.2.2.2.2.2.2.1) (sl + k'.2.2.2.2.2.2.2) mem' (pc + 3) loc (v.toList ++ st)) : E G k R ce sl mem pc loc (As.reverse ++ st) := by
  intro p e s m args below meth c Q hF H locs ls hR hS hL
  obtain ⟨hx, hb, hml, hw, hts, hnm, hE, -⟩ := id hF
  have hcb := x_callN hF hok hlink hroom
  have hr := va_runSN (l := G.1) (e := e) (below := below) (meth := meth) (R := x_rm k) (H := H) (locs := locs) (cells := ce) (slots := sl) (As := As.map (x_v G)) (rest := st.map (x_v G)) (g := F0 m pc ls ((As.reverse ++ st).map (x_v G))) ⟨hx, hb, hml, by rw [← hown]; exact hw, hts⟩ hC ⟨hcb, hts _ hstat, trivial⟩ ⟨x_blind, x_pre hF hR hS⟩ rfl (by rw [List.length_map]; exact hn) hL.1 (by simp [List.map_append, List.map_reverse]) (lv_room (x_sum hrest)) hd hcs
  exact x_cont hF hR hS hL hr kk
theorem E_callIN {k' : xI} {R' : Option Value → xM → Prop} {n idx r : Nat} {own host : String} {As : List Value} (hd : decode k.2.1 pc = .ok (.invokespecial idx, 3)) (hown : k.1.cls = own) (hok : xOk k' n) (hret : k'.2.2.2.1 = none) (hname : k'.1.name = "<init>") (hinst : Cond.instanceMethod k'.1 ∈ x_tbl) (hlink : Cond.methodLinkNest own idx k'.1 host ∈ x_nests) (hroom : k'.2.2.2.2.1 + 1 ≤ k.2.2.2.2.1 ∧ 8 + (k'.2.2.1 + 11) + k'.2.2.2.2.2.1 ≤ k.2.2.2.2.2.1) (hcs : ce + k'.2.2.2.2.2.2.1 ≤ k.2.2.2.2.2.2.1 ∧ sl + k'.2.2.2.2.2.2.2 ≤ k.2.2.2.2.2.2.2) (hrest : (st.map fun v => v.category).sum ≤ 8) (hn : As.length = n) (hC : Ct G k' (.ref r :: As) mem R') (kk : ∀ (v : Option Value) (mem' : xM), R' v mem' → E G k R (ce + k'.2.2.2.2.2.2.1) (sl + k'.2.2.2.2.2.2.2) mem' (pc + 3) loc (v.toList ++ st)) : E G k R ce sl mem pc loc (As.reverse ++ .ref r :: st) := by
  intro p e s m args below meth c Q hF H locs ls hR hS hL
  obtain ⟨hx, hb, hml, hw, hts, hnm, hE, -⟩ := id hF
  have hcb := x_callN hF hok hlink hroom
  rw [hret] at hcb
  have hr := va_runIN (l := G.1) (e := e) (below := below) (meth := meth) (R := x_rm k) (H := H) (locs := locs) (cells := ce) (slots := sl) (As := As.map (x_v G)) (rest := st.map (x_v G)) (g := F0 m pc ls ((As.reverse ++ .ref r :: st).map (x_v G))) ⟨hx, hb, hml, by rw [← hown]; exact hw, hts⟩ hC ⟨hcb, hname, hts _ hinst⟩ ⟨x_blind, x_pre (args := .ref r :: As) hF hR hS⟩ rfl (by rw [List.length_map]; exact hn) hL.1 (by simp [List.map_append, List.map_reverse, x_v]) (lv_room (x_sum hrest)) hd hcs
  exact x_cont hF hR hS hL hr kk
/-- a contract whose answer and memory are given -/
abbrev x_R (v : Option Value) (mem2 : xM) : Option Value → xM → Prop := fun v' m => v' = v ∧ m = mem2
def Dt (G : xG) (k : xI) (args : List Value) (mem : xM) (v : Option Value) (mem2 : xM) : Prop := Ct G k args mem (x_R v mem2)
theorem x_i {a b : Int32} (h : a = b) : some (Value.int a) = some (Value.int b) := congrArg (fun z => some (Value.int z)) h
theorem x_l {a b : Int64} (h : a = b) : some (Value.long a) = some (Value.long b) := congrArg (fun z => some (Value.long z)) h
theorem x_leaf {v v' : Option Value} {m : xM} (h : v = v') : x_R v' m v m := ⟨h, rfl⟩
def x_k0 (k : xI) : Prop := k.2.2.2.2.2.2.1 = 0 ∧ k.2.2.2.2.2.2.2 = 0
def xRm (k k' : xI) : Prop := k'.2.2.2.2.1 + 1 ≤ k.2.2.2.2.1 ∧ 8 + (k'.2.2.1 + 11) + k'.2.2.2.2.2.1 ≤ k.2.2.2.2.2.1
/-- the answer is given, of the memory something is said -/
def Pt (G : xG) (k : xI) (args : List Value) (mem : xM) (v : Option Value) (P : xM → Prop) : Prop := Ct G k args mem (fun v' m => v' = v ∧ P m)
theorem Dt.pt {args : List Value} {v : Option Value} {mem2 : xM} {P : xM → Prop} (h : Dt G k args mem v mem2) (hP : P mem2) : Pt G k args mem v P := Ct.mono h (fun _ _ q => ⟨q.1, by rw [q.2]; exact hP⟩)
theorem Pt.imp {args : List Value} {v : Option Value} {P P' : xM → Prop} (h : Pt G k args mem v P) (hP : ∀ m, P m → P' m) : Pt G k args mem v P' := Ct.mono h (fun _ m q => ⟨q.1, hP m q.2⟩)
theorem E_V0iP {k' : xI} {idx : Nat} {own : String} {P : xM → Prop} {r : Nat} {ci N : Nat} {C : String} {T : u_T} {fs : List Value} {x : Int32} (hd : decode k.2.1 pc = .ok (.invokevirtual idx, 3)) (hown : k.1.cls = own) (hok : xOk k' 0) (hinst : Cond.instanceMethod k'.1 ∈ x_tbl) (hsel : Cond.selects C k'.1 k'.1 ∈ x_tbl) (hlink : Cond.methodLink own idx k'.1 ∈ x_tbl) (hroom : xRm k k') (h0 : x_k0 k') (hcs : ce ≤ k.2.2.2.2.2.2.1 ∧ sl ≤ k.2.2.2.2.2.2.2) (hrest : (st.map fun v => v.category).sum ≤ 8) (hm : mem[r]? = some (.inr (ci, fs))) (hc : vwCl[ci]? = some (C, T, N)) (hC : Pt G k' [.ref r] mem (some (.int x)) P) (kk : ∀ m2 : xM, P m2 → E G k R ce sl m2 (pc + 3) loc (.int x :: st)) : E G k R ce sl mem pc loc (.ref r :: st) := E_callV (As := []) hd hown hok hinst hsel hlink hroom ⟨by rw [h0.1]; exact hcs.1, by rw [h0.2]; exact hcs.2⟩ hrest hm hc rfl hC (fun v mem' hv => by obtain ⟨rfl, hv2⟩ := hv; rw [h0.1, h0.2]; exact kk _ hv2)
theorem E_V0vP {k' : xI} {idx : Nat} {own : String} {P : xM → Prop} {r : Nat} {ci N : Nat} {C : String} {T : u_T} {fs : List Value} (hd : decode k.2.1 pc = .ok (.invokevirtual idx, 3)) (hown : k.1.cls = own) (hok : xOk k' 0) (hinst : Cond.instanceMethod k'.1 ∈ x_tbl) (hsel : Cond.selects C k'.1 k'.1 ∈ x_tbl) (hlink : Cond.methodLink own idx k'.1 ∈ x_tbl) (hroom : xRm k k') (h0 : x_k0 k') (hcs : ce ≤ k.2.2.2.2.2.2.1 ∧ sl ≤ k.2.2.2.2.2.2.2) (hrest : (st.map fun v => v.category).sum ≤ 8) (hm : mem[r]? = some (.inr (ci, fs))) (hc : vwCl[ci]? = some (C, T, N)) (hC : Pt G k' [.ref r] mem (none) P) (kk : ∀ m2 : xM, P m2 → E G k R ce sl m2 (pc + 3) loc (st)) : E G k R ce sl mem pc loc (.ref r :: st) := E_callV (As := []) hd hown hok hinst hsel hlink hroom ⟨by rw [h0.1]; exact hcs.1, by rw [h0.2]; exact hcs.2⟩ hrest hm hc rfl hC (fun v mem' hv => by obtain ⟨rfl, hv2⟩ := hv; rw [h0.1, h0.2]; exact kk _ hv2)
theorem E_V1iP {k' : xI} {idx : Nat} {own : String} {P : xM → Prop} {r : Nat} {ci N : Nat} {C : String} {T : u_T} {fs : List Value} {a1 : Value} {x : Int32} (hd : decode k.2.1 pc = .ok (.invokevirtual idx, 3)) (hown : k.1.cls = own) (hok : xOk k' 1) (hinst : Cond.instanceMethod k'.1 ∈ x_tbl) (hsel : Cond.selects C k'.1 k'.1 ∈ x_tbl) (hlink : Cond.methodLink own idx k'.1 ∈ x_tbl) (hroom : xRm k k') (h0 : x_k0 k') (hcs : ce ≤ k.2.2.2.2.2.2.1 ∧ sl ≤ k.2.2.2.2.2.2.2) (hrest : (st.map fun v => v.category).sum ≤ 8) (hm : mem[r]? = some (.inr (ci, fs))) (hc : vwCl[ci]? = some (C, T, N)) (hC : Pt G k' [.ref r, a1] mem (some (.int x)) P) (kk : ∀ m2 : xM, P m2 → E G k R ce sl m2 (pc + 3) loc (.int x :: st)) : E G k R ce sl mem pc loc (a1 :: .ref r :: st) := E_callV (As := [a1]) hd hown hok hinst hsel hlink hroom ⟨by rw [h0.1]; exact hcs.1, by rw [h0.2]; exact hcs.2⟩ hrest hm hc rfl hC (fun v mem' hv => by obtain ⟨rfl, hv2⟩ := hv; rw [h0.1, h0.2]; exact kk _ hv2)
theorem E_V1vP {k' : xI} {idx : Nat} {own : String} {P : xM → Prop} {r : Nat} {ci N : Nat} {C : String} {T : u_T} {fs : List Value} {a1 : Value} (hd : decode k.2.1 pc = .ok (.invokevirtual idx, 3)) (hown : k.1.cls = own) (hok : xOk k' 1) (hinst : Cond.instanceMethod k'.1 ∈ x_tbl) (hsel : Cond.selects C k'.1 k'.1 ∈ x_tbl) (hlink : Cond.methodLink own idx k'.1 ∈ x_tbl) (hroom : xRm k k') (h0 : x_k0 k') (hcs : ce ≤ k.2.2.2.2.2.2.1 ∧ sl ≤ k.2.2.2.2.2.2.2) (hrest : (st.map fun v => v.category).sum ≤ 8) (hm : mem[r]? = some (.inr (ci, fs))) (hc : vwCl[ci]? = some (C, T, N)) (hC : Pt G k' [.ref r, a1] mem (none) P) (kk : ∀ m2 : xM, P m2 → E G k R ce sl m2 (pc + 3) loc (st)) : E G k R ce sl mem pc loc (a1 :: .ref r :: st) := E_callV (As := [a1]) hd hown hok hinst hsel hlink hroom ⟨by rw [h0.1]; exact hcs.1, by rw [h0.2]; exact hcs.2⟩ hrest hm hc rfl hC (fun v mem' hv => by obtain ⟨rfl, hv2⟩ := hv; rw [h0.1, h0.2]; exact kk _ hv2)
theorem E_V2iP {k' : xI} {idx : Nat} {own : String} {P : xM → Prop} {r : Nat} {ci N : Nat} {C : String} {T : u_T} {fs : List Value} {a1 a2 : Value} {x : Int32} (hd : decode k.2.1 pc = .ok (.invokevirtual idx, 3)) (hown : k.1.cls = own) (hok : xOk k' 2) (hinst : Cond.instanceMethod k'.1 ∈ x_tbl) (hsel : Cond.selects C k'.1 k'.1 ∈ x_tbl) (hlink : Cond.methodLink own idx k'.1 ∈ x_tbl) (hroom : xRm k k') (h0 : x_k0 k') (hcs : ce ≤ k.2.2.2.2.2.2.1 ∧ sl ≤ k.2.2.2.2.2.2.2) (hrest : (st.map fun v => v.category).sum ≤ 8) (hm : mem[r]? = some (.inr (ci, fs))) (hc : vwCl[ci]? = some (C, T, N)) (hC : Pt G k' [.ref r, a1, a2] mem (some (.int x)) P) (kk : ∀ m2 : xM, P m2 → E G k R ce sl m2 (pc + 3) loc (.int x :: st)) : E G k R ce sl mem pc loc (a2 :: a1 :: .ref r :: st) := E_callV (As := [a1, a2]) hd hown hok hinst hsel hlink hroom ⟨by rw [h0.1]; exact hcs.1, by rw [h0.2]; exact hcs.2⟩ hrest hm hc rfl hC (fun v mem' hv => by obtain ⟨rfl, hv2⟩ := hv; rw [h0.1, h0.2]; exact kk _ hv2)
theorem E_V2vP {k' : xI} {idx : Nat} {own : String} {P : xM → Prop} {r : Nat} {ci N : Nat} {C : String} {T : u_T} {fs : List Value} {a1 a2 : Value} (hd : decode k.2.1 pc = .ok (.invokevirtual idx, 3)) (hown : k.1.cls = own) (hok : xOk k' 2) (hinst : Cond.instanceMethod k'.1 ∈ x_tbl) (hsel : Cond.selects C k'.1 k'.1 ∈ x_tbl) (hlink : Cond.methodLink own idx k'.1 ∈ x_tbl) (hroom : xRm k k') (h0 : x_k0 k') (hcs : ce ≤ k.2.2.2.2.2.2.1 ∧ sl ≤ k.2.2.2.2.2.2.2) (hrest : (st.map fun v => v.category).sum ≤ 8) (hm : mem[r]? = some (.inr (ci, fs))) (hc : vwCl[ci]? = some (C, T, N)) (hC : Pt G k' [.ref r, a1, a2] mem (none) P) (kk : ∀ m2 : xM, P m2 → E G k R ce sl m2 (pc + 3) loc (st)) : E G k R ce sl mem pc loc (a2 :: a1 :: .ref r :: st) := E_callV (As := [a1, a2]) hd hown hok hinst hsel hlink hroom ⟨by rw [h0.1]; exact hcs.1, by rw [h0.2]; exact hcs.2⟩ hrest hm hc rfl hC (fun v mem' hv => by obtain ⟨rfl, hv2⟩ := hv; rw [h0.1, h0.2]; exact kk _ hv2)
theorem E_V0i {k' : xI} {idx : Nat} {own : String} {mem2 : xM} {r : Nat} {ci N : Nat} {C : String} {T : u_T} {fs : List Value} {x : Int32} (hd : decode k.2.1 pc = .ok (.invokevirtual idx, 3)) (hown : k.1.cls = own) (hok : xOk k' 0) (hinst : Cond.instanceMethod k'.1 ∈ x_tbl) (hsel : Cond.selects C k'.1 k'.1 ∈ x_tbl) (hlink : Cond.methodLink own idx k'.1 ∈ x_tbl) (hroom : xRm k k') (h0 : x_k0 k') (hcs : ce ≤ k.2.2.2.2.2.2.1 ∧ sl ≤ k.2.2.2.2.2.2.2) (hrest : (st.map fun v => v.category).sum ≤ 8) (hm : mem[r]? = some (.inr (ci, fs))) (hc : vwCl[ci]? = some (C, T, N)) (hC : Dt G k' [.ref r] mem (some (.int x)) mem2) (kk : E G k R ce sl mem2 (pc + 3) loc (.int x :: st)) : E G k R ce sl mem pc loc (.ref r :: st) := E_callV (As := []) hd hown hok hinst hsel hlink hroom ⟨by rw [h0.1]; exact hcs.1, by rw [h0.2]; exact hcs.2⟩ hrest hm hc rfl hC (fun v mem' hv => by obtain ⟨rfl, rfl⟩ := hv; rw [h0.1, h0.2]; exact kk)
theorem E_V0l {k' : xI} {idx : Nat} {own : String} {mem2 : xM} {r : Nat} {ci N : Nat} {C : String} {T : u_T} {fs : List Value} {x : Int64} (hd : decode k.2.1 pc = .ok (.invokevirtual idx, 3)) (hown : k.1.cls = own) (hok : xOk k' 0) (hinst : Cond.instanceMethod k'.1 ∈ x_tbl) (hsel : Cond.selects C k'.1 k'.1 ∈ x_tbl) (hlink : Cond.methodLink own idx k'.1 ∈ x_tbl) (hroom : xRm k k') (h0 : x_k0 k') (hcs : ce ≤ k.2.2.2.2.2.2.1 ∧ sl ≤ k.2.2.2.2.2.2.2) (hrest : (st.map fun v => v.category).sum ≤ 8) (hm : mem[r]? = some (.inr (ci, fs))) (hc : vwCl[ci]? = some (C, T, N)) (hC : Dt G k' [.ref r] mem (some (.long x)) mem2) (kk : E G k R ce sl mem2 (pc + 3) loc (.long x :: st)) : E G k R ce sl mem pc loc (.ref r :: st) := E_callV (As := []) hd hown hok hinst hsel hlink hroom ⟨by rw [h0.1]; exact hcs.1, by rw [h0.2]; exact hcs.2⟩ hrest hm hc rfl hC (fun v mem' hv => by obtain ⟨rfl, rfl⟩ := hv; rw [h0.1, h0.2]; exact kk)
theorem E_V0v {k' : xI} {idx : Nat} {own : String} {mem2 : xM} {r : Nat} {ci N : Nat} {C : String} {T : u_T} {fs : List Value} (hd : decode k.2.1 pc = .ok (.invokevirtual idx, 3)) (hown : k.1.cls = own) (hok : xOk k' 0) (hinst : Cond.instanceMethod k'.1 ∈ x_tbl) (hsel : Cond.selects C k'.1 k'.1 ∈ x_tbl) (hlink : Cond.methodLink own idx k'.1 ∈ x_tbl) (hroom : xRm k k') (h0 : x_k0 k') (hcs : ce ≤ k.2.2.2.2.2.2.1 ∧ sl ≤ k.2.2.2.2.2.2.2) (hrest : (st.map fun v => v.category).sum ≤ 8) (hm : mem[r]? = some (.inr (ci, fs))) (hc : vwCl[ci]? = some (C, T, N)) (hC : Dt G k' [.ref r] mem (none) mem2) (kk : E G k R ce sl mem2 (pc + 3) loc (st)) : E G k R ce sl mem pc loc (.ref r :: st) := E_callV (As := []) hd hown hok hinst hsel hlink hroom ⟨by rw [h0.1]; exact hcs.1, by rw [h0.2]; exact hcs.2⟩ hrest hm hc rfl hC (fun v mem' hv => by obtain ⟨rfl, rfl⟩ := hv; rw [h0.1, h0.2]; exact kk)
theorem E_V1i {k' : xI} {idx : Nat} {own : String} {mem2 : xM} {r : Nat} {ci N : Nat} {C : String} {T : u_T} {fs : List Value} {a1 : Value} {x : Int32} (hd : decode k.2.1 pc = .ok (.invokevirtual idx, 3)) (hown : k.1.cls = own) (hok : xOk k' 1) (hinst : Cond.instanceMethod k'.1 ∈ x_tbl) (hsel : Cond.selects C k'.1 k'.1 ∈ x_tbl) (hlink : Cond.methodLink own idx k'.1 ∈ x_tbl) (hroom : xRm k k') (h0 : x_k0 k') (hcs : ce ≤ k.2.2.2.2.2.2.1 ∧ sl ≤ k.2.2.2.2.2.2.2) (hrest : (st.map fun v => v.category).sum ≤ 8) (hm : mem[r]? = some (.inr (ci, fs))) (hc : vwCl[ci]? = some (C, T, N)) (hC : Dt G k' [.ref r, a1] mem (some (.int x)) mem2) (kk : E G k R ce sl mem2 (pc + 3) loc (.int x :: st)) : E G k R ce sl mem pc loc (a1 :: .ref r :: st) := E_callV (As := [a1]) hd hown hok hinst hsel hlink hroom ⟨by rw [h0.1]; exact hcs.1, by rw [h0.2]; exact hcs.2⟩ hrest hm hc rfl hC (fun v mem' hv => by obtain ⟨rfl, rfl⟩ := hv; rw [h0.1, h0.2]; exact kk)
theorem E_V1l {k' : xI} {idx : Nat} {own : String} {mem2 : xM} {r : Nat} {ci N : Nat} {C : String} {T : u_T} {fs : List Value} {a1 : Value} {x : Int64} (hd : decode k.2.1 pc = .ok (.invokevirtual idx, 3)) (hown : k.1.cls = own) (hok : xOk k' 1) (hinst : Cond.instanceMethod k'.1 ∈ x_tbl) (hsel : Cond.selects C k'.1 k'.1 ∈ x_tbl) (hlink : Cond.methodLink own idx k'.1 ∈ x_tbl) (hroom : xRm k k') (h0 : x_k0 k') (hcs : ce ≤ k.2.2.2.2.2.2.1 ∧ sl ≤ k.2.2.2.2.2.2.2) (hrest : (st.map fun v => v.category).sum ≤ 8) (hm : mem[r]? = some (.inr (ci, fs))) (hc : vwCl[ci]? = some (C, T, N)) (hC : Dt G k' [.ref r, a1] mem (some (.long x)) mem2) (kk : E G k R ce sl mem2 (pc + 3) loc (.long x :: st)) : E G k R ce sl mem pc loc (a1 :: .ref r :: st) := E_callV (As := [a1]) hd hown hok hinst hsel hlink hroom ⟨by rw [h0.1]; exact hcs.1, by rw [h0.2]; exact hcs.2⟩ hrest hm hc rfl hC (fun v mem' hv => by obtain ⟨rfl, rfl⟩ := hv; rw [h0.1, h0.2]; exact kk)
theorem E_V1v {k' : xI} {idx : Nat} {own : String} {mem2 : xM} {r : Nat} {ci N : Nat} {C : String} {T : u_T} {fs : List Value} {a1 : Value} (hd : decode k.2.1 pc = .ok (.invokevirtual idx, 3)) (hown : k.1.cls = own) (hok : xOk k' 1) (hinst : Cond.instanceMethod k'.1 ∈ x_tbl) (hsel : Cond.selects C k'.1 k'.1 ∈ x_tbl) (hlink : Cond.methodLink own idx k'.1 ∈ x_tbl) (hroom : xRm k k') (h0 : x_k0 k') (hcs : ce ≤ k.2.2.2.2.2.2.1 ∧ sl ≤ k.2.2.2.2.2.2.2) (hrest : (st.map fun v => v.category).sum ≤ 8) (hm : mem[r]? = some (.inr (ci, fs))) (hc : vwCl[ci]? = some (C, T, N)) (hC : Dt G k' [.ref r, a1] mem (none) mem2) (kk : E G k R ce sl mem2 (pc + 3) loc (st)) : E G k R ce sl mem pc loc (a1 :: .ref r :: st) := E_callV (As := [a1]) hd hown hok hinst hsel hlink hroom ⟨by rw [h0.1]; exact hcs.1, by rw [h0.2]; exact hcs.2⟩ hrest hm hc rfl hC (fun v mem' hv => by obtain ⟨rfl, rfl⟩ := hv; rw [h0.1, h0.2]; exact kk)
theorem E_V2i {k' : xI} {idx : Nat} {own : String} {mem2 : xM} {r : Nat} {ci N : Nat} {C : String} {T : u_T} {fs : List Value} {a1 a2 : Value} {x : Int32} (hd : decode k.2.1 pc = .ok (.invokevirtual idx, 3)) (hown : k.1.cls = own) (hok : xOk k' 2) (hinst : Cond.instanceMethod k'.1 ∈ x_tbl) (hsel : Cond.selects C k'.1 k'.1 ∈ x_tbl) (hlink : Cond.methodLink own idx k'.1 ∈ x_tbl) (hroom : xRm k k') (h0 : x_k0 k') (hcs : ce ≤ k.2.2.2.2.2.2.1 ∧ sl ≤ k.2.2.2.2.2.2.2) (hrest : (st.map fun v => v.category).sum ≤ 8) (hm : mem[r]? = some (.inr (ci, fs))) (hc : vwCl[ci]? = some (C, T, N)) (hC : Dt G k' [.ref r, a1, a2] mem (some (.int x)) mem2) (kk : E G k R ce sl mem2 (pc + 3) loc (.int x :: st)) : E G k R ce sl mem pc loc (a2 :: a1 :: .ref r :: st) := E_callV (As := [a1, a2]) hd hown hok hinst hsel hlink hroom ⟨by rw [h0.1]; exact hcs.1, by rw [h0.2]; exact hcs.2⟩ hrest hm hc rfl hC (fun v mem' hv => by obtain ⟨rfl, rfl⟩ := hv; rw [h0.1, h0.2]; exact kk)
theorem E_V2l {k' : xI} {idx : Nat} {own : String} {mem2 : xM} {r : Nat} {ci N : Nat} {C : String} {T : u_T} {fs : List Value} {a1 a2 : Value} {x : Int64} (hd : decode k.2.1 pc = .ok (.invokevirtual idx, 3)) (hown : k.1.cls = own) (hok : xOk k' 2) (hinst : Cond.instanceMethod k'.1 ∈ x_tbl) (hsel : Cond.selects C k'.1 k'.1 ∈ x_tbl) (hlink : Cond.methodLink own idx k'.1 ∈ x_tbl) (hroom : xRm k k') (h0 : x_k0 k') (hcs : ce ≤ k.2.2.2.2.2.2.1 ∧ sl ≤ k.2.2.2.2.2.2.2) (hrest : (st.map fun v => v.category).sum ≤ 8) (hm : mem[r]? = some (.inr (ci, fs))) (hc : vwCl[ci]? = some (C, T, N)) (hC : Dt G k' [.ref r, a1, a2] mem (some (.long x)) mem2) (kk : E G k R ce sl mem2 (pc + 3) loc (.long x :: st)) : E G k R ce sl mem pc loc (a2 :: a1 :: .ref r :: st) := E_callV (As := [a1, a2]) hd hown hok hinst hsel hlink hroom ⟨by rw [h0.1]; exact hcs.1, by rw [h0.2]; exact hcs.2⟩ hrest hm hc rfl hC (fun v mem' hv => by obtain ⟨rfl, rfl⟩ := hv; rw [h0.1, h0.2]; exact kk)
theorem E_V2v {k' : xI} {idx : Nat} {own : String} {mem2 : xM} {r : Nat} {ci N : Nat} {C : String} {T : u_T} {fs : List Value} {a1 a2 : Value} (hd : decode k.2.1 pc = .ok (.invokevirtual idx, 3)) (hown : k.1.cls = own) (hok : xOk k' 2) (hinst : Cond.instanceMethod k'.1 ∈ x_tbl) (hsel : Cond.selects C k'.1 k'.1 ∈ x_tbl) (hlink : Cond.methodLink own idx k'.1 ∈ x_tbl) (hroom : xRm k k') (h0 : x_k0 k') (hcs : ce ≤ k.2.2.2.2.2.2.1 ∧ sl ≤ k.2.2.2.2.2.2.2) (hrest : (st.map fun v => v.category).sum ≤ 8) (hm : mem[r]? = some (.inr (ci, fs))) (hc : vwCl[ci]? = some (C, T, N)) (hC : Dt G k' [.ref r, a1, a2] mem (none) mem2) (kk : E G k R ce sl mem2 (pc + 3) loc (st)) : E G k R ce sl mem pc loc (a2 :: a1 :: .ref r :: st) := E_callV (As := [a1, a2]) hd hown hok hinst hsel hlink hroom ⟨by rw [h0.1]; exact hcs.1, by rw [h0.2]; exact hcs.2⟩ hrest hm hc rfl hC (fun v mem' hv => by obtain ⟨rfl, rfl⟩ := hv; rw [h0.1, h0.2]; exact kk)
theorem E_V3i {k' : xI} {idx : Nat} {own : String} {mem2 : xM} {r : Nat} {ci N : Nat} {C : String} {T : u_T} {fs : List Value} {a1 a2 a3 : Value} {x : Int32} (hd : decode k.2.1 pc = .ok (.invokevirtual idx, 3)) (hown : k.1.cls = own) (hok : xOk k' 3) (hinst : Cond.instanceMethod k'.1 ∈ x_tbl) (hsel : Cond.selects C k'.1 k'.1 ∈ x_tbl) (hlink : Cond.methodLink own idx k'.1 ∈ x_tbl) (hroom : xRm k k') (h0 : x_k0 k') (hcs : ce ≤ k.2.2.2.2.2.2.1 ∧ sl ≤ k.2.2.2.2.2.2.2) (hrest : (st.map fun v => v.category).sum ≤ 8) (hm : mem[r]? = some (.inr (ci, fs))) (hc : vwCl[ci]? = some (C, T, N)) (hC : Dt G k' [.ref r, a1, a2, a3] mem (some (.int x)) mem2) (kk : E G k R ce sl mem2 (pc + 3) loc (.int x :: st)) : E G k R ce sl mem pc loc (a3 :: a2 :: a1 :: .ref r :: st) := E_callV (As := [a1, a2, a3]) hd hown hok hinst hsel hlink hroom ⟨by rw [h0.1]; exact hcs.1, by rw [h0.2]; exact hcs.2⟩ hrest hm hc rfl hC (fun v mem' hv => by obtain ⟨rfl, rfl⟩ := hv; rw [h0.1, h0.2]; exact kk)
theorem E_V3l {k' : xI} {idx : Nat} {own : String} {mem2 : xM} {r : Nat} {ci N : Nat} {C : String} {T : u_T} {fs : List Value} {a1 a2 a3 : Value} {x : Int64} (hd : decode k.2.1 pc = .ok (.invokevirtual idx, 3)) (hown : k.1.cls = own) (hok : xOk k' 3) (hinst : Cond.instanceMethod k'.1 ∈ x_tbl) (hsel : Cond.selects C k'.1 k'.1 ∈ x_tbl) (hlink : Cond.methodLink own idx k'.1 ∈ x_tbl) (hroom : xRm k k') (h0 : x_k0 k') (hcs : ce ≤ k.2.2.2.2.2.2.1 ∧ sl ≤ k.2.2.2.2.2.2.2) (hrest : (st.map fun v => v.category).sum ≤ 8) (hm : mem[r]? = some (.inr (ci, fs))) (hc : vwCl[ci]? = some (C, T, N)) (hC : Dt G k' [.ref r, a1, a2, a3] mem (some (.long x)) mem2) (kk : E G k R ce sl mem2 (pc + 3) loc (.long x :: st)) : E G k R ce sl mem pc loc (a3 :: a2 :: a1 :: .ref r :: st) := E_callV (As := [a1, a2, a3]) hd hown hok hinst hsel hlink hroom ⟨by rw [h0.1]; exact hcs.1, by rw [h0.2]; exact hcs.2⟩ hrest hm hc rfl hC (fun v mem' hv => by obtain ⟨rfl, rfl⟩ := hv; rw [h0.1, h0.2]; exact kk)
theorem E_V3v {k' : xI} {idx : Nat} {own : String} {mem2 : xM} {r : Nat} {ci N : Nat} {C : String} {T : u_T} {fs : List Value} {a1 a2 a3 : Value} (hd : decode k.2.1 pc = .ok (.invokevirtual idx, 3)) (hown : k.1.cls = own) (hok : xOk k' 3) (hinst : Cond.instanceMethod k'.1 ∈ x_tbl) (hsel : Cond.selects C k'.1 k'.1 ∈ x_tbl) (hlink : Cond.methodLink own idx k'.1 ∈ x_tbl) (hroom : xRm k k') (h0 : x_k0 k') (hcs : ce ≤ k.2.2.2.2.2.2.1 ∧ sl ≤ k.2.2.2.2.2.2.2) (hrest : (st.map fun v => v.category).sum ≤ 8) (hm : mem[r]? = some (.inr (ci, fs))) (hc : vwCl[ci]? = some (C, T, N)) (hC : Dt G k' [.ref r, a1, a2, a3] mem (none) mem2) (kk : E G k R ce sl mem2 (pc + 3) loc (st)) : E G k R ce sl mem pc loc (a3 :: a2 :: a1 :: .ref r :: st) := E_callV (As := [a1, a2, a3]) hd hown hok hinst hsel hlink hroom ⟨by rw [h0.1]; exact hcs.1, by rw [h0.2]; exact hcs.2⟩ hrest hm hc rfl hC (fun v mem' hv => by obtain ⟨rfl, rfl⟩ := hv; rw [h0.1, h0.2]; exact kk)
theorem E_V4i {k' : xI} {idx : Nat} {own : String} {mem2 : xM} {r : Nat} {ci N : Nat} {C : String} {T : u_T} {fs : List Value} {a1 a2 a3 a4 : Value} {x : Int32} (hd : decode k.2.1 pc = .ok (.invokevirtual idx, 3)) (hown : k.1.cls = own) (hok : xOk k' 4) (hinst : Cond.instanceMethod k'.1 ∈ x_tbl) (hsel : Cond.selects C k'.1 k'.1 ∈ x_tbl) (hlink : Cond.methodLink own idx k'.1 ∈ x_tbl) (hroom : xRm k k') (h0 : x_k0 k') (hcs : ce ≤ k.2.2.2.2.2.2.1 ∧ sl ≤ k.2.2.2.2.2.2.2) (hrest : (st.map fun v => v.category).sum ≤ 8) (hm : mem[r]? = some (.inr (ci, fs))) (hc : vwCl[ci]? = some (C, T, N)) (hC : Dt G k' [.ref r, a1, a2, a3, a4] mem (some (.int x)) mem2) (kk : E G k R ce sl mem2 (pc + 3) loc (.int x :: st)) : E G k R ce sl mem pc loc (a4 :: a3 :: a2 :: a1 :: .ref r :: st) := E_callV (As := [a1, a2, a3, a4]) hd hown hok hinst hsel hlink hroom ⟨by rw [h0.1]; exact hcs.1, by rw [h0.2]; exact hcs.2⟩ hrest hm hc rfl hC (fun v mem' hv => by obtain ⟨rfl, rfl⟩ := hv; rw [h0.1, h0.2]; exact kk)
theorem E_V4l {k' : xI} {idx : Nat} {own : String} {mem2 : xM} {r : Nat} {ci N : Nat} {C : String} {T : u_T} {fs : List Value} {a1 a2 a3 a4 : Value} {x : Int64} (hd : decode k.2.1 pc = .ok (.invokevirtual idx, 3)) (hown : k.1.cls = own) (hok : xOk k' 4) (hinst : Cond.instanceMethod k'.1 ∈ x_tbl) (hsel : Cond.selects C k'.1 k'.1 ∈ x_tbl) (hlink : Cond.methodLink own idx k'.1 ∈ x_tbl) (hroom : xRm k k') (h0 : x_k0 k') (hcs : ce ≤ k.2.2.2.2.2.2.1 ∧ sl ≤ k.2.2.2.2.2.2.2) (hrest : (st.map fun v => v.category).sum ≤ 8) (hm : mem[r]? = some (.inr (ci, fs))) (hc : vwCl[ci]? = some (C, T, N)) (hC : Dt G k' [.ref r, a1, a2, a3, a4] mem (some (.long x)) mem2) (kk : E G k R ce sl mem2 (pc + 3) loc (.long x :: st)) : E G k R ce sl mem pc loc (a4 :: a3 :: a2 :: a1 :: .ref r :: st) := E_callV (As := [a1, a2, a3, a4]) hd hown hok hinst hsel hlink hroom ⟨by rw [h0.1]; exact hcs.1, by rw [h0.2]; exact hcs.2⟩ hrest hm hc rfl hC (fun v mem' hv => by obtain ⟨rfl, rfl⟩ := hv; rw [h0.1, h0.2]; exact kk)
theorem E_V4v {k' : xI} {idx : Nat} {own : String} {mem2 : xM} {r : Nat} {ci N : Nat} {C : String} {T : u_T} {fs : List Value} {a1 a2 a3 a4 : Value} (hd : decode k.2.1 pc = .ok (.invokevirtual idx, 3)) (hown : k.1.cls = own) (hok : xOk k' 4) (hinst : Cond.instanceMethod k'.1 ∈ x_tbl) (hsel : Cond.selects C k'.1 k'.1 ∈ x_tbl) (hlink : Cond.methodLink own idx k'.1 ∈ x_tbl) (hroom : xRm k k') (h0 : x_k0 k') (hcs : ce ≤ k.2.2.2.2.2.2.1 ∧ sl ≤ k.2.2.2.2.2.2.2) (hrest : (st.map fun v => v.category).sum ≤ 8) (hm : mem[r]? = some (.inr (ci, fs))) (hc : vwCl[ci]? = some (C, T, N)) (hC : Dt G k' [.ref r, a1, a2, a3, a4] mem (none) mem2) (kk : E G k R ce sl mem2 (pc + 3) loc (st)) : E G k R ce sl mem pc loc (a4 :: a3 :: a2 :: a1 :: .ref r :: st) := E_callV (As := [a1, a2, a3, a4]) hd hown hok hinst hsel hlink hroom ⟨by rw [h0.1]; exact hcs.1, by rw [h0.2]; exact hcs.2⟩ hrest hm hc rfl hC (fun v mem' hv => by obtain ⟨rfl, rfl⟩ := hv; rw [h0.1, h0.2]; exact kk)
theorem E_V5i {k' : xI} {idx : Nat} {own : String} {mem2 : xM} {r : Nat} {ci N : Nat} {C : String} {T : u_T} {fs : List Value} {a1 a2 a3 a4 a5 : Value} {x : Int32} (hd : decode k.2.1 pc = .ok (.invokevirtual idx, 3)) (hown : k.1.cls = own) (hok : xOk k' 5) (hinst : Cond.instanceMethod k'.1 ∈ x_tbl) (hsel : Cond.selects C k'.1 k'.1 ∈ x_tbl) (hlink : Cond.methodLink own idx k'.1 ∈ x_tbl) (hroom : xRm k k') (h0 : x_k0 k') (hcs : ce ≤ k.2.2.2.2.2.2.1 ∧ sl ≤ k.2.2.2.2.2.2.2) (hrest : (st.map fun v => v.category).sum ≤ 8) (hm : mem[r]? = some (.inr (ci, fs))) (hc : vwCl[ci]? = some (C, T, N)) (hC : Dt G k' [.ref r, a1, a2, a3, a4, a5] mem (some (.int x)) mem2) (kk : E G k R ce sl mem2 (pc + 3) loc (.int x :: st)) : E G k R ce sl mem pc loc (a5 :: a4 :: a3 :: a2 :: a1 :: .ref r :: st) := E_callV (As := [a1, a2, a3, a4, a5]) hd hown hok hinst hsel hlink hroom ⟨by rw [h0.1]; exact hcs.1, by rw [h0.2]; exact hcs.2⟩ hrest hm hc rfl hC (fun v mem' hv => by obtain ⟨rfl, rfl⟩ := hv; rw [h0.1, h0.2]; exact kk)
theorem E_V5l {k' : xI} {idx : Nat} {own : String} {mem2 : xM} {r : Nat} {ci N : Nat} {C : String} {T : u_T} {fs : List Value} {a1 a2 a3 a4 a5 : Value} {x : Int64} (hd : decode k.2.1 pc = .ok (.invokevirtual idx, 3)) (hown : k.1.cls = own) (hok : xOk k' 5) (hinst : Cond.instanceMethod k'.1 ∈ x_tbl) (hsel : Cond.selects C k'.1 k'.1 ∈ x_tbl) (hlink : Cond.methodLink own idx k'.1 ∈ x_tbl) (hroom : xRm k k') (h0 : x_k0 k') (hcs : ce ≤ k.2.2.2.2.2.2.1 ∧ sl ≤ k.2.2.2.2.2.2.2) (hrest : (st.map fun v => v.category).sum ≤ 8) (hm : mem[r]? = some (.inr (ci, fs))) (hc : vwCl[ci]? = some (C, T, N)) (hC : Dt G k' [.ref r, a1, a2, a3, a4, a5] mem (some (.long x)) mem2) (kk : E G k R ce sl mem2 (pc + 3) loc (.long x :: st)) : E G k R ce sl mem pc loc (a5 :: a4 :: a3 :: a2 :: a1 :: .ref r :: st) := E_callV (As := [a1, a2, a3, a4, a5]) hd hown hok hinst hsel hlink hroom ⟨by rw [h0.1]; exact hcs.1, by rw [h0.2]; exact hcs.2⟩ hrest hm hc rfl hC (fun v mem' hv => by obtain ⟨rfl, rfl⟩ := hv; rw [h0.1, h0.2]; exact kk)
theorem E_V5v {k' : xI} {idx : Nat} {own : String} {mem2 : xM} {r : Nat} {ci N : Nat} {C : String} {T : u_T} {fs : List Value} {a1 a2 a3 a4 a5 : Value} (hd : decode k.2.1 pc = .ok (.invokevirtual idx, 3)) (hown : k.1.cls = own) (hok : xOk k' 5) (hinst : Cond.instanceMethod k'.1 ∈ x_tbl) (hsel : Cond.selects C k'.1 k'.1 ∈ x_tbl) (hlink : Cond.methodLink own idx k'.1 ∈ x_tbl) (hroom : xRm k k') (h0 : x_k0 k') (hcs : ce ≤ k.2.2.2.2.2.2.1 ∧ sl ≤ k.2.2.2.2.2.2.2) (hrest : (st.map fun v => v.category).sum ≤ 8) (hm : mem[r]? = some (.inr (ci, fs))) (hc : vwCl[ci]? = some (C, T, N)) (hC : Dt G k' [.ref r, a1, a2, a3, a4, a5] mem (none) mem2) (kk : E G k R ce sl mem2 (pc + 3) loc (st)) : E G k R ce sl mem pc loc (a5 :: a4 :: a3 :: a2 :: a1 :: .ref r :: st) := E_callV (As := [a1, a2, a3, a4, a5]) hd hown hok hinst hsel hlink hroom ⟨by rw [h0.1]; exact hcs.1, by rw [h0.2]; exact hcs.2⟩ hrest hm hc rfl hC (fun v mem' hv => by obtain ⟨rfl, rfl⟩ := hv; rw [h0.1, h0.2]; exact kk)
theorem E_S0i {k' : xI} {idx : Nat} {own : String} {mem2 : xM} {x : Int32} (hd : decode k.2.1 pc = .ok (.invokestatic idx, 3)) (hown : k.1.cls = own) (hok : xOk k' 0) (hstat : Cond.static k'.1 ∈ x_tbl) (hlink : Cond.methodLink own idx k'.1 ∈ x_tbl) (hroom : xRm k k') (h0 : x_k0 k') (hcs : ce ≤ k.2.2.2.2.2.2.1 ∧ sl ≤ k.2.2.2.2.2.2.2) (hrest : (st.map fun v => v.category).sum ≤ 8) (hC : Dt G k' [] mem (some (.int x)) mem2) (kk : E G k R ce sl mem2 (pc + 3) loc (.int x :: st)) : E G k R ce sl mem pc loc (st) := E_callS (As := []) hd hown hok hstat hlink hroom ⟨by rw [h0.1]; exact hcs.1, by rw [h0.2]; exact hcs.2⟩ hrest rfl hC (fun v mem' hv => by obtain ⟨rfl, rfl⟩ := hv; rw [h0.1, h0.2]; exact kk)
theorem E_S0l {k' : xI} {idx : Nat} {own : String} {mem2 : xM} {x : Int64} (hd : decode k.2.1 pc = .ok (.invokestatic idx, 3)) (hown : k.1.cls = own) (hok : xOk k' 0) (hstat : Cond.static k'.1 ∈ x_tbl) (hlink : Cond.methodLink own idx k'.1 ∈ x_tbl) (hroom : xRm k k') (h0 : x_k0 k') (hcs : ce ≤ k.2.2.2.2.2.2.1 ∧ sl ≤ k.2.2.2.2.2.2.2) (hrest : (st.map fun v => v.category).sum ≤ 8) (hC : Dt G k' [] mem (some (.long x)) mem2) (kk : E G k R ce sl mem2 (pc + 3) loc (.long x :: st)) : E G k R ce sl mem pc loc (st) := E_callS (As := []) hd hown hok hstat hlink hroom ⟨by rw [h0.1]; exact hcs.1, by rw [h0.2]; exact hcs.2⟩ hrest rfl hC (fun v mem' hv => by obtain ⟨rfl, rfl⟩ := hv; rw [h0.1, h0.2]; exact kk)
theorem E_S0v {k' : xI} {idx : Nat} {own : String} {mem2 : xM} (hd : decode k.2.1 pc = .ok (.invokestatic idx, 3)) (hown : k.1.cls = own) (hok : xOk k' 0) (hstat : Cond.static k'.1 ∈ x_tbl) (hlink : Cond.methodLink own idx k'.1 ∈ x_tbl) (hroom : xRm k k') (h0 : x_k0 k') (hcs : ce ≤ k.2.2.2.2.2.2.1 ∧ sl ≤ k.2.2.2.2.2.2.2) (hrest : (st.map fun v => v.category).sum ≤ 8) (hC : Dt G k' [] mem (none) mem2) (kk : E G k R ce sl mem2 (pc + 3) loc (st)) : E G k R ce sl mem pc loc (st) := E_callS (As := []) hd hown hok hstat hlink hroom ⟨by rw [h0.1]; exact hcs.1, by rw [h0.2]; exact hcs.2⟩ hrest rfl hC (fun v mem' hv => by obtain ⟨rfl, rfl⟩ := hv; rw [h0.1, h0.2]; exact kk)
theorem E_S1i {k' : xI} {idx : Nat} {own : String} {mem2 : xM} {a1 : Value} {x : Int32} (hd : decode k.2.1 pc = .ok (.invokestatic idx, 3)) (hown : k.1.cls = own) (hok : xOk k' 1) (hstat : Cond.static k'.1 ∈ x_tbl) (hlink : Cond.methodLink own idx k'.1 ∈ x_tbl) (hroom : xRm k k') (h0 : x_k0 k') (hcs : ce ≤ k.2.2.2.2.2.2.1 ∧ sl ≤ k.2.2.2.2.2.2.2) (hrest : (st.map fun v => v.category).sum ≤ 8) (hC : Dt G k' [a1] mem (some (.int x)) mem2) (kk : E G k R ce sl mem2 (pc + 3) loc (.int x :: st)) : E G k R ce sl mem pc loc (a1 :: st) := E_callS (As := [a1]) hd hown hok hstat hlink hroom ⟨by rw [h0.1]; exact hcs.1, by rw [h0.2]; exact hcs.2⟩ hrest rfl hC (fun v mem' hv => by obtain ⟨rfl, rfl⟩ := hv; rw [h0.1, h0.2]; exact kk)
theorem E_S1l {k' : xI} {idx : Nat} {own : String} {mem2 : xM} {a1 : Value} {x : Int64} (hd : decode k.2.1 pc = .ok (.invokestatic idx, 3)) (hown : k.1.cls = own) (hok : xOk k' 1) (hstat : Cond.static k'.1 ∈ x_tbl) (hlink : Cond.methodLink own idx k'.1 ∈ x_tbl) (hroom : xRm k k') (h0 : x_k0 k') (hcs : ce ≤ k.2.2.2.2.2.2.1 ∧ sl ≤ k.2.2.2.2.2.2.2) (hrest : (st.map fun v => v.category).sum ≤ 8) (hC : Dt G k' [a1] mem (some (.long x)) mem2) (kk : E G k R ce sl mem2 (pc + 3) loc (.long x :: st)) : E G k R ce sl mem pc loc (a1 :: st) := E_callS (As := [a1]) hd hown hok hstat hlink hroom ⟨by rw [h0.1]; exact hcs.1, by rw [h0.2]; exact hcs.2⟩ hrest rfl hC (fun v mem' hv => by obtain ⟨rfl, rfl⟩ := hv; rw [h0.1, h0.2]; exact kk)
theorem E_S1v {k' : xI} {idx : Nat} {own : String} {mem2 : xM} {a1 : Value} (hd : decode k.2.1 pc = .ok (.invokestatic idx, 3)) (hown : k.1.cls = own) (hok : xOk k' 1) (hstat : Cond.static k'.1 ∈ x_tbl) (hlink : Cond.methodLink own idx k'.1 ∈ x_tbl) (hroom : xRm k k') (h0 : x_k0 k') (hcs : ce ≤ k.2.2.2.2.2.2.1 ∧ sl ≤ k.2.2.2.2.2.2.2) (hrest : (st.map fun v => v.category).sum ≤ 8) (hC : Dt G k' [a1] mem (none) mem2) (kk : E G k R ce sl mem2 (pc + 3) loc (st)) : E G k R ce sl mem pc loc (a1 :: st) := E_callS (As := [a1]) hd hown hok hstat hlink hroom ⟨by rw [h0.1]; exact hcs.1, by rw [h0.2]; exact hcs.2⟩ hrest rfl hC (fun v mem' hv => by obtain ⟨rfl, rfl⟩ := hv; rw [h0.1, h0.2]; exact kk)
theorem E_S2i {k' : xI} {idx : Nat} {own : String} {mem2 : xM} {a1 a2 : Value} {x : Int32} (hd : decode k.2.1 pc = .ok (.invokestatic idx, 3)) (hown : k.1.cls = own) (hok : xOk k' 2) (hstat : Cond.static k'.1 ∈ x_tbl) (hlink : Cond.methodLink own idx k'.1 ∈ x_tbl) (hroom : xRm k k') (h0 : x_k0 k') (hcs : ce ≤ k.2.2.2.2.2.2.1 ∧ sl ≤ k.2.2.2.2.2.2.2) (hrest : (st.map fun v => v.category).sum ≤ 8) (hC : Dt G k' [a1, a2] mem (some (.int x)) mem2) (kk : E G k R ce sl mem2 (pc + 3) loc (.int x :: st)) : E G k R ce sl mem pc loc (a2 :: a1 :: st) := E_callS (As := [a1, a2]) hd hown hok hstat hlink hroom ⟨by rw [h0.1]; exact hcs.1, by rw [h0.2]; exact hcs.2⟩ hrest rfl hC (fun v mem' hv => by obtain ⟨rfl, rfl⟩ := hv; rw [h0.1, h0.2]; exact kk)
theorem E_S2l {k' : xI} {idx : Nat} {own : String} {mem2 : xM} {a1 a2 : Value} {x : Int64} (hd : decode k.2.1 pc = .ok (.invokestatic idx, 3)) (hown : k.1.cls = own) (hok : xOk k' 2) (hstat : Cond.static k'.1 ∈ x_tbl) (hlink : Cond.methodLink own idx k'.1 ∈ x_tbl) (hroom : xRm k k') (h0 : x_k0 k') (hcs : ce ≤ k.2.2.2.2.2.2.1 ∧ sl ≤ k.2.2.2.2.2.2.2) (hrest : (st.map fun v => v.category).sum ≤ 8) (hC : Dt G k' [a1, a2] mem (some (.long x)) mem2) (kk : E G k R ce sl mem2 (pc + 3) loc (.long x :: st)) : E G k R ce sl mem pc loc (a2 :: a1 :: st) := E_callS (As := [a1, a2]) hd hown hok hstat hlink hroom ⟨by rw [h0.1]; exact hcs.1, by rw [h0.2]; exact hcs.2⟩ hrest rfl hC (fun v mem' hv => by obtain ⟨rfl, rfl⟩ := hv; rw [h0.1, h0.2]; exact kk)
theorem E_S2v {k' : xI} {idx : Nat} {own : String} {mem2 : xM} {a1 a2 : Value} (hd : decode k.2.1 pc = .ok (.invokestatic idx, 3)) (hown : k.1.cls = own) (hok : xOk k' 2) (hstat : Cond.static k'.1 ∈ x_tbl) (hlink : Cond.methodLink own idx k'.1 ∈ x_tbl) (hroom : xRm k k') (h0 : x_k0 k') (hcs : ce ≤ k.2.2.2.2.2.2.1 ∧ sl ≤ k.2.2.2.2.2.2.2) (hrest : (st.map fun v => v.category).sum ≤ 8) (hC : Dt G k' [a1, a2] mem (none) mem2) (kk : E G k R ce sl mem2 (pc + 3) loc (st)) : E G k R ce sl mem pc loc (a2 :: a1 :: st) := E_callS (As := [a1, a2]) hd hown hok hstat hlink hroom ⟨by rw [h0.1]; exact hcs.1, by rw [h0.2]; exact hcs.2⟩ hrest rfl hC (fun v mem' hv => by obtain ⟨rfl, rfl⟩ := hv; rw [h0.1, h0.2]; exact kk)
theorem E_S3i {k' : xI} {idx : Nat} {own : String} {mem2 : xM} {a1 a2 a3 : Value} {x : Int32} (hd : decode k.2.1 pc = .ok (.invokestatic idx, 3)) (hown : k.1.cls = own) (hok : xOk k' 3) (hstat : Cond.static k'.1 ∈ x_tbl) (hlink : Cond.methodLink own idx k'.1 ∈ x_tbl) (hroom : xRm k k') (h0 : x_k0 k') (hcs : ce ≤ k.2.2.2.2.2.2.1 ∧ sl ≤ k.2.2.2.2.2.2.2) (hrest : (st.map fun v => v.category).sum ≤ 8) (hC : Dt G k' [a1, a2, a3] mem (some (.int x)) mem2) (kk : E G k R ce sl mem2 (pc + 3) loc (.int x :: st)) : E G k R ce sl mem pc loc (a3 :: a2 :: a1 :: st) := E_callS (As := [a1, a2, a3]) hd hown hok hstat hlink hroom ⟨by rw [h0.1]; exact hcs.1, by rw [h0.2]; exact hcs.2⟩ hrest rfl hC (fun v mem' hv => by obtain ⟨rfl, rfl⟩ := hv; rw [h0.1, h0.2]; exact kk)
theorem E_S3l {k' : xI} {idx : Nat} {own : String} {mem2 : xM} {a1 a2 a3 : Value} {x : Int64} (hd : decode k.2.1 pc = .ok (.invokestatic idx, 3)) (hown : k.1.cls = own) (hok : xOk k' 3) (hstat : Cond.static k'.1 ∈ x_tbl) (hlink : Cond.methodLink own idx k'.1 ∈ x_tbl) (hroom : xRm k k') (h0 : x_k0 k') (hcs : ce ≤ k.2.2.2.2.2.2.1 ∧ sl ≤ k.2.2.2.2.2.2.2) (hrest : (st.map fun v => v.category).sum ≤ 8) (hC : Dt G k' [a1, a2, a3] mem (some (.long x)) mem2) (kk : E G k R ce sl mem2 (pc + 3) loc (.long x :: st)) : E G k R ce sl mem pc loc (a3 :: a2 :: a1 :: st) := E_callS (As := [a1, a2, a3]) hd hown hok hstat hlink hroom ⟨by rw [h0.1]; exact hcs.1, by rw [h0.2]; exact hcs.2⟩ hrest rfl hC (fun v mem' hv => by obtain ⟨rfl, rfl⟩ := hv; rw [h0.1, h0.2]; exact kk)
theorem E_S3v {k' : xI} {idx : Nat} {own : String} {mem2 : xM} {a1 a2 a3 : Value} (hd : decode k.2.1 pc = .ok (.invokestatic idx, 3)) (hown : k.1.cls = own) (hok : xOk k' 3) (hstat : Cond.static k'.1 ∈ x_tbl) (hlink : Cond.methodLink own idx k'.1 ∈ x_tbl) (hroom : xRm k k') (h0 : x_k0 k') (hcs : ce ≤ k.2.2.2.2.2.2.1 ∧ sl ≤ k.2.2.2.2.2.2.2) (hrest : (st.map fun v => v.category).sum ≤ 8) (hC : Dt G k' [a1, a2, a3] mem (none) mem2) (kk : E G k R ce sl mem2 (pc + 3) loc (st)) : E G k R ce sl mem pc loc (a3 :: a2 :: a1 :: st) := E_callS (As := [a1, a2, a3]) hd hown hok hstat hlink hroom ⟨by rw [h0.1]; exact hcs.1, by rw [h0.2]; exact hcs.2⟩ hrest rfl hC (fun v mem' hv => by obtain ⟨rfl, rfl⟩ := hv; rw [h0.1, h0.2]; exact kk)
theorem E_S4i {k' : xI} {idx : Nat} {own : String} {mem2 : xM} {a1 a2 a3 a4 : Value} {x : Int32} (hd : decode k.2.1 pc = .ok (.invokestatic idx, 3)) (hown : k.1.cls = own) (hok : xOk k' 4) (hstat : Cond.static k'.1 ∈ x_tbl) (hlink : Cond.methodLink own idx k'.1 ∈ x_tbl) (hroom : xRm k k') (h0 : x_k0 k') (hcs : ce ≤ k.2.2.2.2.2.2.1 ∧ sl ≤ k.2.2.2.2.2.2.2) (hrest : (st.map fun v => v.category).sum ≤ 8) (hC : Dt G k' [a1, a2, a3, a4] mem (some (.int x)) mem2) (kk : E G k R ce sl mem2 (pc + 3) loc (.int x :: st)) : E G k R ce sl mem pc loc (a4 :: a3 :: a2 :: a1 :: st) := E_callS (As := [a1, a2, a3, a4]) hd hown hok hstat hlink hroom ⟨by rw [h0.1]; exact hcs.1, by rw [h0.2]; exact hcs.2⟩ hrest rfl hC (fun v mem' hv => by obtain ⟨rfl, rfl⟩ := hv; rw [h0.1, h0.2]; exact kk)
theorem E_S4l {k' : xI} {idx : Nat} {own : String} {mem2 : xM} {a1 a2 a3 a4 : Value} {x : Int64} (hd : decode k.2.1 pc = .ok (.invokestatic idx, 3)) (hown : k.1.cls = own) (hok : xOk k' 4) (hstat : Cond.static k'.1 ∈ x_tbl) (hlink : Cond.methodLink own idx k'.1 ∈ x_tbl) (hroom : xRm k k') (h0 : x_k0 k') (hcs : ce ≤ k.2.2.2.2.2.2.1 ∧ sl ≤ k.2.2.2.2.2.2.2) (hrest : (st.map fun v => v.category).sum ≤ 8) (hC : Dt G k' [a1, a2, a3, a4] mem (some (.long x)) mem2) (kk : E G k R ce sl mem2 (pc + 3) loc (.long x :: st)) : E G k R ce sl mem pc loc (a4 :: a3 :: a2 :: a1 :: st) := E_callS (As := [a1, a2, a3, a4]) hd hown hok hstat hlink hroom ⟨by rw [h0.1]; exact hcs.1, by rw [h0.2]; exact hcs.2⟩ hrest rfl hC (fun v mem' hv => by obtain ⟨rfl, rfl⟩ := hv; rw [h0.1, h0.2]; exact kk)
theorem E_S4v {k' : xI} {idx : Nat} {own : String} {mem2 : xM} {a1 a2 a3 a4 : Value} (hd : decode k.2.1 pc = .ok (.invokestatic idx, 3)) (hown : k.1.cls = own) (hok : xOk k' 4) (hstat : Cond.static k'.1 ∈ x_tbl) (hlink : Cond.methodLink own idx k'.1 ∈ x_tbl) (hroom : xRm k k') (h0 : x_k0 k') (hcs : ce ≤ k.2.2.2.2.2.2.1 ∧ sl ≤ k.2.2.2.2.2.2.2) (hrest : (st.map fun v => v.category).sum ≤ 8) (hC : Dt G k' [a1, a2, a3, a4] mem (none) mem2) (kk : E G k R ce sl mem2 (pc + 3) loc (st)) : E G k R ce sl mem pc loc (a4 :: a3 :: a2 :: a1 :: st) := E_callS (As := [a1, a2, a3, a4]) hd hown hok hstat hlink hroom ⟨by rw [h0.1]; exact hcs.1, by rw [h0.2]; exact hcs.2⟩ hrest rfl hC (fun v mem' hv => by obtain ⟨rfl, rfl⟩ := hv; rw [h0.1, h0.2]; exact kk)
theorem E_S5i {k' : xI} {idx : Nat} {own : String} {mem2 : xM} {a1 a2 a3 a4 a5 : Value} {x : Int32} (hd : decode k.2.1 pc = .ok (.invokestatic idx, 3)) (hown : k.1.cls = own) (hok : xOk k' 5) (hstat : Cond.static k'.1 ∈ x_tbl) (hlink : Cond.methodLink own idx k'.1 ∈ x_tbl) (hroom : xRm k k') (h0 : x_k0 k') (hcs : ce ≤ k.2.2.2.2.2.2.1 ∧ sl ≤ k.2.2.2.2.2.2.2) (hrest : (st.map fun v => v.category).sum ≤ 8) (hC : Dt G k' [a1, a2, a3, a4, a5] mem (some (.int x)) mem2) (kk : E G k R ce sl mem2 (pc + 3) loc (.int x :: st)) : E G k R ce sl mem pc loc (a5 :: a4 :: a3 :: a2 :: a1 :: st) := E_callS (As := [a1, a2, a3, a4, a5]) hd hown hok hstat hlink hroom ⟨by rw [h0.1]; exact hcs.1, by rw [h0.2]; exact hcs.2⟩ hrest rfl hC (fun v mem' hv => by obtain ⟨rfl, rfl⟩ := hv; rw [h0.1, h0.2]; exact kk)
theorem E_S5l {k' : xI} {idx : Nat} {own : String} {mem2 : xM} {a1 a2 a3 a4 a5 : Value} {x : Int64} (hd : decode k.2.1 pc = .ok (.invokestatic idx, 3)) (hown : k.1.cls = own) (hok : xOk k' 5) (hstat : Cond.static k'.1 ∈ x_tbl) (hlink : Cond.methodLink own idx k'.1 ∈ x_tbl) (hroom : xRm k k') (h0 : x_k0 k') (hcs : ce ≤ k.2.2.2.2.2.2.1 ∧ sl ≤ k.2.2.2.2.2.2.2) (hrest : (st.map fun v => v.category).sum ≤ 8) (hC : Dt G k' [a1, a2, a3, a4, a5] mem (some (.long x)) mem2) (kk : E G k R ce sl mem2 (pc + 3) loc (.long x :: st)) : E G k R ce sl mem pc loc (a5 :: a4 :: a3 :: a2 :: a1 :: st) := E_callS (As := [a1, a2, a3, a4, a5]) hd hown hok hstat hlink hroom ⟨by rw [h0.1]; exact hcs.1, by rw [h0.2]; exact hcs.2⟩ hrest rfl hC (fun v mem' hv => by obtain ⟨rfl, rfl⟩ := hv; rw [h0.1, h0.2]; exact kk)
theorem E_S5v {k' : xI} {idx : Nat} {own : String} {mem2 : xM} {a1 a2 a3 a4 a5 : Value} (hd : decode k.2.1 pc = .ok (.invokestatic idx, 3)) (hown : k.1.cls = own) (hok : xOk k' 5) (hstat : Cond.static k'.1 ∈ x_tbl) (hlink : Cond.methodLink own idx k'.1 ∈ x_tbl) (hroom : xRm k k') (h0 : x_k0 k') (hcs : ce ≤ k.2.2.2.2.2.2.1 ∧ sl ≤ k.2.2.2.2.2.2.2) (hrest : (st.map fun v => v.category).sum ≤ 8) (hC : Dt G k' [a1, a2, a3, a4, a5] mem (none) mem2) (kk : E G k R ce sl mem2 (pc + 3) loc (st)) : E G k R ce sl mem pc loc (a5 :: a4 :: a3 :: a2 :: a1 :: st) := E_callS (As := [a1, a2, a3, a4, a5]) hd hown hok hstat hlink hroom ⟨by rw [h0.1]; exact hcs.1, by rw [h0.2]; exact hcs.2⟩ hrest rfl hC (fun v mem' hv => by obtain ⟨rfl, rfl⟩ := hv; rw [h0.1, h0.2]; exact kk)
theorem E_I0v {k' : xI} {idx : Nat} {own : String} {mem2 : xM} {r : Nat} (hd : decode k.2.1 pc = .ok (.invokespecial idx, 3)) (hown : k.1.cls = own) (hok : xOk k' 0) (hret : k'.2.2.2.1 = none) (hname : k'.1.name = "<init>") (hinst : Cond.instanceMethod k'.1 ∈ x_tbl) (hlink : Cond.methodLink own idx k'.1 ∈ x_tbl) (hroom : xRm k k') (hcs : ce + k'.2.2.2.2.2.2.1 ≤ k.2.2.2.2.2.2.1 ∧ sl + k'.2.2.2.2.2.2.2 ≤ k.2.2.2.2.2.2.2) (hrest : (st.map fun v => v.category).sum ≤ 8) (hC : Dt G k' [.ref r] mem (none) mem2) (kk : E G k R (ce + k'.2.2.2.2.2.2.1) (sl + k'.2.2.2.2.2.2.2) mem2 (pc + 3) loc (st)) : E G k R ce sl mem pc loc (.ref r :: st) := E_callI (As := []) hd hown hok hret hname hinst hlink hroom hcs hrest rfl hC (fun v mem' hv => by obtain ⟨rfl, rfl⟩ := hv; exact kk)
theorem E_SN0i {k' : xI} {idx : Nat} {own host : String} {mem2 : xM} {x : Int32} (hd : decode k.2.1 pc = .ok (.invokestatic idx, 3)) (hown : k.1.cls = own) (hok : xOk k' 0) (hstat : Cond.static k'.1 ∈ x_tbl) (hlink : Cond.methodLinkNest own idx k'.1 host ∈ x_nests) (hroom : xRm k k') (h0 : x_k0 k') (hcs : ce ≤ k.2.2.2.2.2.2.1 ∧ sl ≤ k.2.2.2.2.2.2.2) (hrest : (st.map fun v => v.category).sum ≤ 8) (hC : Dt G k' [] mem (some (.int x)) mem2) (kk : E G k R ce sl mem2 (pc + 3) loc (.int x :: st)) : E G k R ce sl mem pc loc (st) := E_callSN (As := []) hd hown hok hstat hlink hroom ⟨by rw [h0.1]; exact hcs.1, by rw [h0.2]; exact hcs.2⟩ hrest rfl hC (fun v mem' hv => by obtain ⟨rfl, rfl⟩ := hv; rw [h0.1, h0.2]; exact kk)
theorem E_SN1i {k' : xI} {idx : Nat} {own host : String} {mem2 : xM} {a1 : Value} {x : Int32} (hd : decode k.2.1 pc = .ok (.invokestatic idx, 3)) (hown : k.1.cls = own) (hok : xOk k' 1) (hstat : Cond.static k'.1 ∈ x_tbl) (hlink : Cond.methodLinkNest own idx k'.1 host ∈ x_nests) (hroom : xRm k k') (h0 : x_k0 k') (hcs : ce ≤ k.2.2.2.2.2.2.1 ∧ sl ≤ k.2.2.2.2.2.2.2) (hrest : (st.map fun v => v.category).sum ≤ 8) (hC : Dt G k' [a1] mem (some (.int x)) mem2) (kk : E G k R ce sl mem2 (pc + 3) loc (.int x :: st)) : E G k R ce sl mem pc loc (a1 :: st) := E_callSN (As := [a1]) hd hown hok hstat hlink hroom ⟨by rw [h0.1]; exact hcs.1, by rw [h0.2]; exact hcs.2⟩ hrest rfl hC (fun v mem' hv => by obtain ⟨rfl, rfl⟩ := hv; rw [h0.1, h0.2]; exact kk)
theorem E_SN2i {k' : xI} {idx : Nat} {own host : String} {mem2 : xM} {a1 a2 : Value} {x : Int32} (hd : decode k.2.1 pc = .ok (.invokestatic idx, 3)) (hown : k.1.cls = own) (hok : xOk k' 2) (hstat : Cond.static k'.1 ∈ x_tbl) (hlink : Cond.methodLinkNest own idx k'.1 host ∈ x_nests) (hroom : xRm k k') (h0 : x_k0 k') (hcs : ce ≤ k.2.2.2.2.2.2.1 ∧ sl ≤ k.2.2.2.2.2.2.2) (hrest : (st.map fun v => v.category).sum ≤ 8) (hC : Dt G k' [a1, a2] mem (some (.int x)) mem2) (kk : E G k R ce sl mem2 (pc + 3) loc (.int x :: st)) : E G k R ce sl mem pc loc (a2 :: a1 :: st) := E_callSN (As := [a1, a2]) hd hown hok hstat hlink hroom ⟨by rw [h0.1]; exact hcs.1, by rw [h0.2]; exact hcs.2⟩ hrest rfl hC (fun v mem' hv => by obtain ⟨rfl, rfl⟩ := hv; rw [h0.1, h0.2]; exact kk)
theorem E_SN3i {k' : xI} {idx : Nat} {own host : String} {mem2 : xM} {a1 a2 a3 : Value} {x : Int32} (hd : decode k.2.1 pc = .ok (.invokestatic idx, 3)) (hown : k.1.cls = own) (hok : xOk k' 3) (hstat : Cond.static k'.1 ∈ x_tbl) (hlink : Cond.methodLinkNest own idx k'.1 host ∈ x_nests) (hroom : xRm k k') (h0 : x_k0 k') (hcs : ce ≤ k.2.2.2.2.2.2.1 ∧ sl ≤ k.2.2.2.2.2.2.2) (hrest : (st.map fun v => v.category).sum ≤ 8) (hC : Dt G k' [a1, a2, a3] mem (some (.int x)) mem2) (kk : E G k R ce sl mem2 (pc + 3) loc (.int x :: st)) : E G k R ce sl mem pc loc (a3 :: a2 :: a1 :: st) := E_callSN (As := [a1, a2, a3]) hd hown hok hstat hlink hroom ⟨by rw [h0.1]; exact hcs.1, by rw [h0.2]; exact hcs.2⟩ hrest rfl hC (fun v mem' hv => by obtain ⟨rfl, rfl⟩ := hv; rw [h0.1, h0.2]; exact kk)
theorem E_SN4i {k' : xI} {idx : Nat} {own host : String} {mem2 : xM} {a1 a2 a3 a4 : Value} {x : Int32} (hd : decode k.2.1 pc = .ok (.invokestatic idx, 3)) (hown : k.1.cls = own) (hok : xOk k' 4) (hstat : Cond.static k'.1 ∈ x_tbl) (hlink : Cond.methodLinkNest own idx k'.1 host ∈ x_nests) (hroom : xRm k k') (h0 : x_k0 k') (hcs : ce ≤ k.2.2.2.2.2.2.1 ∧ sl ≤ k.2.2.2.2.2.2.2) (hrest : (st.map fun v => v.category).sum ≤ 8) (hC : Dt G k' [a1, a2, a3, a4] mem (some (.int x)) mem2) (kk : E G k R ce sl mem2 (pc + 3) loc (.int x :: st)) : E G k R ce sl mem pc loc (a4 :: a3 :: a2 :: a1 :: st) := E_callSN (As := [a1, a2, a3, a4]) hd hown hok hstat hlink hroom ⟨by rw [h0.1]; exact hcs.1, by rw [h0.2]; exact hcs.2⟩ hrest rfl hC (fun v mem' hv => by obtain ⟨rfl, rfl⟩ := hv; rw [h0.1, h0.2]; exact kk)
theorem E_SN5i {k' : xI} {idx : Nat} {own host : String} {mem2 : xM} {a1 a2 a3 a4 a5 : Value} {x : Int32} (hd : decode k.2.1 pc = .ok (.invokestatic idx, 3)) (hown : k.1.cls = own) (hok : xOk k' 5) (hstat : Cond.static k'.1 ∈ x_tbl) (hlink : Cond.methodLinkNest own idx k'.1 host ∈ x_nests) (hroom : xRm k k') (h0 : x_k0 k') (hcs : ce ≤ k.2.2.2.2.2.2.1 ∧ sl ≤ k.2.2.2.2.2.2.2) (hrest : (st.map fun v => v.category).sum ≤ 8) (hC : Dt G k' [a1, a2, a3, a4, a5] mem (some (.int x)) mem2) (kk : E G k R ce sl mem2 (pc + 3) loc (.int x :: st)) : E G k R ce sl mem pc loc (a5 :: a4 :: a3 :: a2 :: a1 :: st) := E_callSN (As := [a1, a2, a3, a4, a5]) hd hown hok hstat hlink hroom ⟨by rw [h0.1]; exact hcs.1, by rw [h0.2]; exact hcs.2⟩ hrest rfl hC (fun v mem' hv => by obtain ⟨rfl, rfl⟩ := hv; rw [h0.1, h0.2]; exact kk)
theorem E_IN0v {k' : xI} {idx : Nat} {own host : String} {mem2 : xM} {r : Nat} (hd : decode k.2.1 pc = .ok (.invokespecial idx, 3)) (hown : k.1.cls = own) (hok : xOk k' 0) (hret : k'.2.2.2.1 = none) (hname : k'.1.name = "<init>") (hinst : Cond.instanceMethod k'.1 ∈ x_tbl) (hlink : Cond.methodLinkNest own idx k'.1 host ∈ x_nests) (hroom : xRm k k') (hcs : ce + k'.2.2.2.2.2.2.1 ≤ k.2.2.2.2.2.2.1 ∧ sl + k'.2.2.2.2.2.2.2 ≤ k.2.2.2.2.2.2.2) (hrest : (st.map fun v => v.category).sum ≤ 8) (hC : Dt G k' [.ref r] mem (none) mem2) (kk : E G k R (ce + k'.2.2.2.2.2.2.1) (sl + k'.2.2.2.2.2.2.2) mem2 (pc + 3) loc (st)) : E G k R ce sl mem pc loc (.ref r :: st) := E_callIN (As := []) hd hown hok hret hname hinst hlink hroom hcs hrest rfl hC (fun v mem' hv => by obtain ⟨rfl, rfl⟩ := hv; exact kk)
end X
