/-! 03: the heap by fields (Hp), and the judgement V: from this place of method Y the machine comes to a return with (v, h'), and Q v h' -/
abbrev Mth : Type := MethodName × ByteArray × Nat × Option FieldType
/-- launch, class numbers and slots, classes of arrays by kind, the base of our cells, the empty row of ArrayList, the class object of Object[], the script (where, length, ints) -/
abbrev Gl : Type := Launch × va_G × (Nat → ClassId) × Nat × Nat × Nat × Nat × Nat × (Nat → Int32)
/-- size, slots made, addresses, kinds, lengths; fields (int, long, ref) by field and address; rows (int, long, ref) by address and place -/
abbrev Hp : Type := Nat × Nat × List Nat × (Nat → Nat) × (Nat → Nat) × (Nat → Nat → Int32) × (Nat → Nat → Int64) × (Nat → Nat → Option Nat) × (Nat → Nat → Int32) × (Nat → Nat → Int64) × (Nat → Nat → Option Nat)
def hz (h : Hp) : Nat := h.1
def hs (h : Hp) : Nat := h.2.1
def hL (h : Hp) : List Nat := h.2.2.1
def hK (h : Hp) : Nat → Nat := h.2.2.2.1
def hN (h : Hp) : Nat → Nat := h.2.2.2.2.1
def fI (h : Hp) : Nat → Nat → Int32 := h.2.2.2.2.2.1
def fL (h : Hp) : Nat → Nat → Int64 := h.2.2.2.2.2.2.1
def fP (h : Hp) : Nat → Nat → Option Nat := h.2.2.2.2.2.2.2.1
def aI (h : Hp) : Nat → Nat → Int32 := h.2.2.2.2.2.2.2.2.1
def aL (h : Hp) : Nat → Nat → Int64 := h.2.2.2.2.2.2.2.2.2.1
def aP (h : Hp) : Nat → Nat → Option Nat := h.2.2.2.2.2.2.2.2.2.2
def up2 {α : Type} (f : Nat → Nat → α) (i j : Nat) (v : α) : Nat → Nat → α := fun x y => if x = i ∧ y = j then v else f x y
/-- the whole of row i (of a function by rows) -/
def upR {α : Type} (f : Nat → α) (i : Nat) (v : α) : Nat → α := fun x => if x = i then v else f x
def sFI (h : Hp) (k a : Nat) (v : Int32) : Hp := (hz h, hs h, hL h, hK h, hN h, up2 (fI h) k a v, fL h, fP h, aI h, aL h, aP h)
def sFL (h : Hp) (k a : Nat) (v : Int64) : Hp := (hz h, hs h, hL h, hK h, hN h, fI h, up2 (fL h) k a v, fP h, aI h, aL h, aP h)
def sFP (h : Hp) (k a : Nat) (v : Option Nat) : Hp := (hz h, hs h, hL h, hK h, hN h, fI h, fL h, up2 (fP h) k a v, aI h, aL h, aP h)
def sAI (h : Hp) (a : Nat) (r : Nat → Int32) : Hp := (hz h, hs h, hL h, hK h, hN h, fI h, fL h, fP h, upR (aI h) a r, aL h, aP h)
def sAL (h : Hp) (a : Nat) (r : Nat → Int64) : Hp := (hz h, hs h, hL h, hK h, hN h, fI h, fL h, fP h, aI h, upR (aL h) a r, aP h)
def sAP (h : Hp) (a : Nat) (r : Nat → Option Nat) : Hp := (hz h, hs h, hL h, hK h, hN h, fI h, fL h, fP h, aI h, aL h, upR (aP h) a r)
/-- a new object of kind k with n fields, at hz h -/
def nObj (h : Hp) (k n : Nat) : Hp := (hz h + 1, hs h + n, hL h ++ [hz h], upR (hK h) (hz h) k, hN h, fun x y => if y = hz h then 0 else fI h x y, fun x y => if y = hz h then 0 else fL h x y, fun x y => if y = hz h then none else fP h x y, aI h, aL h, aP h)
/-- a new row of kind k with n places, at hz h -/
def nArr (h : Hp) (k n : Nat) : Hp := (hz h + 1, hs h + n, hL h ++ [hz h], upR (hK h) (hz h) k, upR (hN h) (hz h) n, fI h, fL h, fP h, upR (aI h) (hz h) (fun _ => 0), upR (aL h) (hz h) (fun _ => 0), upR (aP h) (hz h) (fun _ => none))
/-- classes by number (as in vwCl): type (0 int, 1 long, 2 ref) and number of each field -/
def cfl : Nat → List (Nat × Nat)
  | 0 => [(0, 48), (2, 49), (0, 50)]
  | 1 => [(2, 27), (0, 28)]
  | 2 => [(2, 29), (0, 30)]
  | 3 => [(2, 31), (2, 32), (0, 33)]
  | 4 => [(0, 3), (0, 4), (0, 5), (0, 1), (0, 2), (0, 6), (0, 7), (0, 8), (0, 9), (0, 10), (1, 11)]
  | 5 => [(0, 1), (0, 2)]
  | 6 => [(0, 34), (0, 35), (0, 36), (0, 37), (0, 38), (1, 39), (2, 40), (0, 41)]
  | 7 => [(0, 3), (0, 4), (0, 5), (0, 1), (0, 2), (0, 12), (0, 13), (0, 14), (0, 15), (2, 16), (2, 17), (2, 18), (2, 19), (0, 20), (0, 21), (0, 22), (0, 23), (0, 24), (0, 25), (0, 26)]
  | 8 => [(2, 42), (2, 43), (2, 44), (2, 45), (0, 46), (0, 47)]
  | 9 => [(2, 60), (2, 61), (2, 62), (2, 63), (2, 64), (2, 65), (2, 66), (2, 67), (2, 68), (2, 69), (2, 70), (2, 71), (2, 72), (2, 73), (2, 74), (2, 75), (2, 76), (2, 77), (0, 78), (0, 79), (2, 80), (2, 81), (2, 82), (2, 83), (2, 84), (2, 85), (2, 86), (2, 87), (0, 88), (2, 89), (2, 90), (0, 91), (2, 92), (2, 93), (2, 94), (2, 95), (2, 96), (2, 97), (0, 98), (2, 99), (2, 100)]
  | _ => []
def fval (h : Hp) (a : Nat) (q : Nat × Nat) : Value := if q.1 = 0 then .int (fI h q.2 a) else if q.1 = 1 then .long (fL h q.2 a) else va_rf (fP h q.2 a)
def cellOf (g : Gl) (h : Hp) (a : Nat) : va_E :=
  if hK h a < 20 then .inr (hK h a - 1, (cfl (hK h a - 1)).map (fval h a))
  else .inl (g.2.2.1 (hK h a), hN h a, if hK h a = 21 ∨ hK h a = 23 then .inl (aI h a) else if hK h a = 22 then .inr (.inl (aL h a)) else .inr (.inr (.inr (.inr (aP h a)))))
/-- the types of the rows by kind -/
def aty : Nat → FieldType
  | 21 => .int
  | 22 => .long
  | 23 => .boolean
  | 24 => .object "WindowMill$Lane"
  | 25 => .object "WindowMill$Source"
  | 26 => .object "WindowMill$Stage"
  | 27 => .object "java/lang/Object"
  | _ => .array .long
def gtys (g : Gl) : List (ClassId × FieldType) := [21, 22, 23, 24, 25, 26, 27, 28].map (fun k => (g.2.2.1 k, aty k))
def gA (g : Gl) : Nat → Prop := fun q => g.2.2.2.1 ≤ q
def Rh (g : Gl) (h : Hp) (H : Heap) : Prop :=
  H.size = hz h ∧ va_P g.2.1 vwCl (va_pl (hL h) (cellOf g h)) H ∧ va_D (gA g) (va_pl (hL h) (cellOf g h)) ∧ ∀ a, hK h a ≠ 0 → a ∈ hL h
/-- the empty row of ArrayList: a row of objects, of length 0 (nobody asks more of its cell) -/
def EmX (g : Gl) (U : State) : Prop := ∃ cell : Cell, U.heap[g.2.2.2.2.1]? = some cell ∧ U.isArrayOf cell (.object "java/lang/Object") ∧ cell.slots.size.toInt32 = 0
def ncs : List (String × String) := [("WindowMill$Source", "WindowMill$Windowed"), ("WindowMill$Passing", "WindowMill$Windowed"), ("WindowMill$Windowed", "WindowMill$Passing")]
def isN : Cond → Bool
  | .fieldLinkNest .. => true
  | .methodLinkNest .. => true
  | .declares _ => true
  | .castable _ _ => true
  | .arrayOver (.object _) => true
  | .arrayOver (.array _) => true
  | _ => false
def tb : List Cond := lw_tbl.filter goodWord
def tbN : List Cond := lw_tbl.filter isN
theorem tb_in : GoodIn tb tb := fun w h => ⟨h, good_of_word (List.mem_filter.mp h).2⟩
theorem AOA_moved {t : FieldType} {u U : State} (hvm : u.vm.Alike U.vm) (h : (Cond.arrayOver (.array t)).before #[] u = true) : (Cond.arrayOver (.array t)).before #[] U = true := by
  unfold Cond.before Cond.holds at h ⊢
  simp only [Cond.value, beq_iff_eq] at h ⊢
  cases hc : u.vm.findClass (FieldType.array t).toString with
  | none => simp [hc] at h
  | some comp =>
    have f1 : U.vm.findClass (FieldType.array t).toString = some comp := by rw [hvm.findClass]; exact hc
    rw [f1]
    rw [hc] at h
    simp only [Option.bind_some, Option.bind_eq_some_iff, Option.map_eq_some_iff] at h ⊢
    obtain ⟨c, hi, k, hk, hb⟩ := h
    obtain ⟨k', hk', he⟩ := hvm.2.2 _ _ hk
    refine ⟨c, ?_, k', hk', ?_⟩
    · have e1 := va_idx_bare U.vm comp
      have e2 := va_idx_bare u.vm comp
      have e3 : U.vm.bare = u.vm.bare := by first | exact hvm.bare_eq | exact hvm.bare_eq.symm
      rw [e3] at e1
      exact e1.symm.trans (e2.trans hi)
    · rw [he, hvm.findClass]
      exact hb
theorem nw_warm {w : Cond} (hN : isN w = true) {s U : State} (hW : s.WarmedH U.vm) (h : w.before #[] s = true) : w.before #[] U = true := by
  unfold isN at hN
  split at hN
  · exact va_Nw.warmF hW h
  · exact va_Nw.warmM hW h
  · exact va_Nw.warmD hW h
  · exact va_Nw.warmC hW h
  · exact va_AO.moved hW.alike h
  · exact AOA_moved hW.alike h
  · cases hN
def Kn (g : Gl) (U : State) : Prop :=
  (∀ w ∈ tbN, w.before #[] U = true) ∧ va_K g.2.1 vwCl (gtys g) U ∧ (∀ x ∈ ncs, va_Nc x.1 x.2 U) ∧ va_Z "java/util/ArrayList" "DEFAULTCAPACITY_EMPTY_ELEMENTDATA" "[Ljava/lang/Object;" (.ref g.2.2.2.2.1) (gA g) U U.heap ∧ EmX g U ∧ g.2.2.2.2.1 < g.2.2.2.1 ∧ g.2.2.2.1 ≤ U.heap.size ∧ va_Mi "[Ljava/lang/Object;" g.2.2.2.2.2.1 U ∧ va_X g.2.2.2.2.2.2.1 g.2.2.2.2.2.2.2.1 g.2.2.2.2.2.2.2.2 U U.heap ∧ g.2.2.2.2.2.2.1 < g.2.2.2.1
theorem Kn.on {g : Gl} {u U : State} (h : Kn g u) (hW : u.WarmedH U.vm) (hF : va_F (gA g) u U) : Kn g U := by
  obtain ⟨h0, h1, h2, h3, ⟨cell, h4, h4a, h4s⟩, h5, h6, h7, h8, h9⟩ := h
  have hvm := hW.alike
  have hlt : g.2.2.2.2.1 < u.heap.size := (Array.getElem?_eq_some_iff.mp h4).1
  refine ⟨fun w hw => nw_warm (List.mem_filter.mp hw).2 hW (h0 w hw), h1.moved hvm, fun x hx => (h2 x hx).moved hvm, (h3.moved hvm).kept hF.2, ⟨cell, ?_, State.isArrayOf_alike hvm h4a, h4s⟩, h5, Nat.le_trans h6 hF.1, h7.moved hvm, (h8.moved hvm).kept (hF.2 _ (Nat.lt_of_lt_of_le h9 h6) (Nat.not_le.mpr h9)), h9⟩
  rw [hF.2 _ hlt (Nat.not_le.mpr h5)]
  exact h4
def wsY (Y : Mth) : List Cond := .code Y.1 Y.2.1 Y.2.2.1 Y.2.2.2 :: tb
/-- a local of no known value -/
abbrev zz : Value := .float 0
def Lok (n : Nat) (ls : List Value) (arr : Array Slot) : Prop := arr.size = n ∧ lv_wf arr ∧ ∀ (i : Nat) (v : Value), ls[i]? = some v → v ≠ zz → arr[i]? = some (.val v)
def Cx (g : Gl) (Y : Mth) (d : Nat) (p : Program) (R : Room) (s : State) (m : MethodId) (args : Array Value) (meth : Method) (c : Code) : Prop :=
  p.tables.exec = Jvm.exec ∧ c.code = Y.2.1 ∧ meth.sig.returnType = Y.2.2.2 ∧ c.maxLocals = Y.2.2.1 ∧ (∀ w ∈ tb, w.before args s = true) ∧ s.vm.findClass Y.1.cls = some m.cls ∧ meth.locks = false ∧ meth.name = Y.1.name ∧ Kn g s ∧ d ≤ R.frames ∧ 512 * d ≤ R.locals
/-- the cells that h0 doesn't know stay -/
def Fix (h0 : Hp) (H0 H : Heap) : Prop := ∀ q : Nat, q < H0.size → q ∉ hL h0 → H[q]? = H0[q]?
/-- the end of a method that began at h0: it returns v, the heap is h' -/
def Qend (g : Gl) (h0 : Hp) (v : Option Value) (h' : Hp) : Array Value → State → Outcome → State → Prop := fun _ st oc t => oc = .returned v ∧ Rh g h' t.heap ∧ Kn g t ∧ va_F (gA g) st t ∧ Fix h0 st.heap t.heap
/-- the heap has grown: what is known now was known, or is new -/
def Ext (h h' : Hp) : Prop := hz h ≤ hz h' ∧ hs h ≤ hs h' ∧ ∀ a ∈ hL h', a ∈ hL h ∨ hz h ≤ a
theorem Ext.rf (h : Hp) : Ext h h := ⟨Nat.le_refl _, Nat.le_refl _, fun _ h => Or.inl h⟩
theorem Ext.tr {h h1 h2 : Hp} (a : Ext h h1) (b : Ext h1 h2) : Ext h h2 := ⟨Nat.le_trans a.1 b.1, Nat.le_trans a.2.1 b.2.1, fun x hx => (b.2.2 x hx).elim (a.2.2 x) (fun h => Or.inr (Nat.le_trans a.1 h))⟩
def Run (g : Gl) (Y : Mth) (d pc : Nat) (ls st : List Value) (h : Hp) (v : Option Value) (h' : Hp) : Prop :=
  Ext h h' ∧ ∀ (p : Program) (e : Env) (R : Room) (s : State) (m : MethodId) (args : Array Value) (below : List Frame) (meth : Method) (c : Code) (H : Heap) (locs : List Loc) (cells slots : Nat) (arr : Array Slot) (h0 : Hp),
    Cx g Y d p R s m args meth c → Rh g h H → va_S (gA g) s.heap H locs → Lok Y.2.2.1 ls arr → cells + (hz h' - hz h) ≤ R.cells → slots + (hs h' - hs h) ≤ R.slots → Ext h0 h → hz h0 = s.heap.size → Fix h0 s.heap H →
    W p g.1 e R s m args below meth c H locs cells slots (MQ below (Qend g h0 v h') args s R.cells R.slots (gA g)) (F0 m pc arr st)
def V (g : Gl) (Y : Mth) (d pc : Nat) (ls st : List Value) (h : Hp) (Q : Option Value → Hp → Prop) : Prop := ∃ v h', Run g Y d pc ls st h v h' ∧ Q v h'
def Ct (g : Gl) (Y : Mth) (d : Nat) (av : List Value) (h : Hp) (v : Option Value) (h' : Hp) : Prop :=
  Ext h h' ∧ Met g.1 Y.1 (wsY Y) { frames := d, cells := hz h' - hz h, slots := hs h' - hs h, locals := 512 * d } (va_Pc av (fun U => Rh g h U.heap ∧ Kn g U)) (Qend g h v h') (hz h' - hz h) (hs h' - hs h) (gA g)
def Call (g : Gl) (Y : Mth) (d : Nat) (av : List Value) (h : Hp) (Q : Option Value → Hp → Prop) : Prop := ∃ v h', Ct g Y d av h v h' ∧ Q v h'
theorem V.mono {g : Gl} {Y : Mth} {d pc : Nat} {ls st : List Value} {h : Hp} {Q Q' : Option Value → Hp → Prop} (k : V g Y d pc ls st h Q) (hQ : ∀ v h', Q v h' → Q' v h') : V g Y d pc ls st h Q' := by
  obtain ⟨v, h', r, q⟩ := k
  exact ⟨v, h', r, hQ _ _ q⟩
theorem Call.mono {g : Gl} {Y : Mth} {d : Nat} {av : List Value} {h : Hp} {Q Q' : Option Value → Hp → Prop} (k : Call g Y d av h Q) (hQ : ∀ v h', Q v h' → Q' v h') : Call g Y d av h Q' := by
  obtain ⟨v, h', r, q⟩ := k
  exact ⟨v, h', r, hQ _ _ q⟩
def entL : List Value → List Value
  | [] => []
  | v :: vs => if v.category = 2 then v :: zz :: entL vs else v :: entL vs
theorem entL_args : ∀ (vs : List Value) (i j : Nat) (v : Value), (entL vs)[j]? = some v → v ≠ zz → (i + j, v) ∈ lv_args i vs
  | [], i, j, v, h, _ => by simp [entL] at h
  | w :: vs, i, j, v, h, hz => by
    unfold entL at h
    unfold lv_args
    by_cases hc : w.category = 2
    · rw [if_pos hc] at h
      rw [if_pos hc]
      match j, h with
      | 0, h =>
        cases h
        exact List.mem_cons_self
      | 1, h =>
        cases h
        exact absurd rfl hz
      | j + 2, h =>
        have h1 : (entL vs)[j]? = some v := h
        have := entL_args vs (i + 2) j v h1 hz
        refine List.mem_cons_of_mem _ ?_
        rw [show i + (j + 2) = i + 2 + j by omega]
        exact this
    · rw [if_neg hc] at h
      rw [if_neg hc]
      match j, h with
      | 0, h =>
        cases h
        exact List.mem_cons_self
      | j + 1, h =>
        have h1 : (entL vs)[j]? = some v := h
        have := entL_args vs (i + 1) j v h1 hz
        refine List.mem_cons_of_mem _ ?_
        rw [show i + (j + 1) = i + 1 + j by omega]
        exact this
/-- a method's contract out of its walk -/
theorem Call.of {g : Gl} {Y : Mth} {d : Nat} {av : List Value} {h : Hp} {Q : Option Value → Hp → Prop} (ls : List Value) (hy : plainName Y.1.cls = true) (hlen : (lg_sl av).length ≤ Y.2.2.1) (hls : entL av ++ List.replicate (Y.2.2.1 - (entL av).length) zz = ls)
    (body : V g Y d 0 ls [] h Q) : Call g Y d av h Q := by
  obtain ⟨v, h', ⟨r1, r3⟩, q⟩ := body
  refine ⟨v, h', ⟨r1, ?_⟩, q⟩
  refine Met.ofW (cc := Y.2.1) (maxL := Y.2.2.1) (ret := Y.2.2.2) hy rfl ?_
  intro p e s m args below meth c s₁ B hml hv
  obtain ⟨rfl, hR, hKn⟩ := hv
  have hts := atoms_spec (ws := wsY Y) B.pre
  have hown : s.vm.findClass Y.1.cls = some m.cls := findClass_of_methodNamed B.named
  have hl := lv_entry av (n := Y.2.2.1) hlen
  rw [lg_entry_eq]
  generalize (lg_sl av ++ List.replicate (Y.2.2.1 - (lg_sl av).length) Slot.unset).toArray = arr at hl ⊢
  refine r3 p e _ s m _ below meth c s.heap [] 0 0 arr h ⟨B.exec, B.bytes, B.returns, hml, fun w hw => hts w (List.mem_cons_of_mem _ hw), hown, B.notSynchronized, (name_of_methodNamed B.named B.method).1, hKn, Nat.le_of_eq rfl, Nat.le_of_eq rfl⟩ hR va_S.rf ⟨hl.1, hl.2.1, fun i v hi hz => ?_⟩ (by simp [headSpec]) (by simp [headSpec]) (Ext.rf h) hR.1.symm (fun _ _ _ => rfl)
  have h3 := hl.2.2
  rw [← hls] at hi
  by_cases hj : i < (entL av).length
  · rw [List.getElem?_append_left hj] at hi
    have := entL_args av 0 i v hi hz
    rw [Nat.zero_add] at this
    exact h3 _ this
  · rw [List.getElem?_append_right (by omega)] at hi
    have := List.mem_replicate.mp (List.mem_of_getElem? hi)
    exact absurd this.2 hz
/-- a step that leaves the heap -/
theorem V.step {g : Gl} {Y : Mth} {d pc pc' : Nat} {ls ls' st st' : List Value} {h : Hp} {Q : Option Value → Hp → Prop}
    (hs : ∀ (p : Program) (e : Env) (R : Room) (s : State) (m : MethodId) (args : Array Value) (below : List Frame) (meth : Method) (c : Code) (H : Heap) (locs : List Loc) (cells slots : Nat) (arr : Array Slot) (Qf : State → Prop),
      Cx g Y d p R s m args meth c → Rh g h H → va_S (gA g) s.heap H locs → Lok Y.2.2.1 ls arr → (∀ arr' : Array Slot, Lok Y.2.2.1 ls' arr' → W p g.1 e R s m args below meth c H locs cells slots Qf (F0 m pc' arr' st')) → W p g.1 e R s m args below meth c H locs cells slots Qf (F0 m pc arr st))
    (k : V g Y d pc' ls' st' h Q) : V g Y d pc ls st h Q := by
  obtain ⟨v, h', ⟨r1, r3⟩, q⟩ := k
  refine ⟨v, h', ⟨r1, ?_⟩, q⟩
  intro p e R s m args below meth c H locs cells slots arr h0 hC hR hS hL hc hsl hE hz0 hX
  exact hs p e R s m args below meth c H locs cells slots arr _ hC hR hS hL (fun arr' hL' => r3 p e R s m args below meth c H locs cells slots arr' h0 hC hR hS hL' hc hsl hE hz0 hX)
theorem Fix.on {h0 h : Hp} {H0 H H1 : Heap} (hX : Fix h0 H0 H) (hE : Ext h0 h) (hz0 : hz h0 = H0.size) (hl : H0.size ≤ H.size) (hs : ∀ q : Nat, q < H.size → q ∉ hL h → H1[q]? = H[q]?) : Fix h0 H0 H1 := by
  intro q h1 h2
  rw [hs q (by omega) (fun hq => (hE.2.2 q hq).elim h2 (fun h3 => by omega))]
  exact hX q h1 h2
/-- a step that changes the heap to h1 and makes k cells of n slots in all -/
theorem V.move {g : Gl} {Y : Mth} {d pc pc' : Nat} {ls st st' : List Value} {h h1 : Hp} {Q : Option Value → Hp → Prop} (hE1 : Ext h h1)
    (hs : ∀ (p : Program) (e : Env) (R : Room) (s : State) (m : MethodId) (args : Array Value) (below : List Frame) (meth : Method) (c : Code) (H : Heap) (locs : List Loc) (cells slots : Nat) (arr : Array Slot) (Qf : State → Prop),
      Cx g Y d p R s m args meth c → Rh g h H → va_S (gA g) s.heap H locs → Lok Y.2.2.1 ls arr → cells + (hz h1 - hz h) ≤ R.cells → slots + (hs h1 - hs h) ≤ R.slots →
      (∀ (H1 : Heap) (locs1 : List Loc), Rh g h1 H1 → va_S (gA g) s.heap H1 locs1 → (∀ q : Nat, q < H.size → q ∉ hL h → H1[q]? = H[q]?) → W p g.1 e R s m args below meth c H1 locs1 (cells + (hz h1 - hz h)) (slots + (hs h1 - hs h)) Qf (F0 m pc' arr st')) → W p g.1 e R s m args below meth c H locs cells slots Qf (F0 m pc arr st))
    (k : V g Y d pc' ls st' h1 Q) : V g Y d pc ls st h Q := by
  obtain ⟨v, h', ⟨r1, r3⟩, q⟩ := k
  have k1 := hE1.1
  have k2 := hE1.2.1
  have k3 := r1.1
  have k4 := r1.2.1
  refine ⟨v, h', ⟨hE1.tr r1, ?_⟩, q⟩
  intro p e R s m args below meth c H locs cells slots arr h0 hC hR hS hL hc hsl hE hz0 hX
  exact hs p e R s m args below meth c H locs cells slots arr _ hC hR hS hL (by omega) (by omega) (fun H1 locs1 hR1 hS1 hX1 => r3 p e R s m args below meth c H1 locs1 _ _ arr h0 hC hR1 hS1 hL (by omega) (by omega) (hE.tr hE1) hz0 (hX.on hE hz0 hS.1 hX1))
/-- a return -/
theorem V.ret {g : Gl} {Y : Mth} {d pc : Nat} {ls st : List Value} {h : Hp} {v : Option Value} {Q : Option Value → Hp → Prop}
    (hs : ∀ (p : Program) (e : Env) (R : Room) (s : State) (m : MethodId) (args : Array Value) (below : List Frame) (meth : Method) (c : Code) (H : Heap) (locs : List Loc) (arr : Array Slot) (h0 : Hp),
      Cx g Y d p R s m args meth c → (∀ t : State, t.heap = H → s.WarmedH t.vm → Qend g h0 v h args s (.returned v) t) → (∀ q ∈ locs, gA g q.base) → W p g.1 e R s m args below meth c H locs R.cells R.slots (MQ below (Qend g h0 v h) args s R.cells R.slots (gA g)) (F0 m pc arr st))
    (q : Q v h) : V g Y d pc ls st h Q := by
  refine ⟨v, h, ⟨Ext.rf h, ?_⟩, q⟩
  intro p e R s m args below meth c H locs cells slots arr h0 hC hR hS hL hc hsl hE hz0 hX
  refine W.widen (k := R.cells) (n := R.slots) (by omega) (by omega) (hs p e R s m args below meth c H locs arr h0 hC (fun t ht hW => ?_) hS.2.2)
  have hF : va_F (gA g) s t := hS.F ht
  refine ⟨rfl, by rw [ht]; exact hR, ?_, hF, by rw [ht]; exact hX⟩
  obtain ⟨-, -, -, -, -, -, -, -, hKn, -, -⟩ := hC
  exact hKn.on hW hF
