/-! 04: one row an instruction: steps that leave the heap -/
section R4
variable {g : Gl} {Y : Mth} {d pc q : Nat} {ls st : List Value} {h : Hp} {Q : Option Value → Hp → Prop}
def isRf : Value → Bool
  | .ref _ => true
  | .null => true
  | _ => false
theorem isRf_rf (r : Option Nat) : isRf (va_rf r) = true := by cases r <;> rfl
theorem isRf_or {v : Value} (h : isRf v = true) : v = .null ∨ ∃ a, v = .ref a := by
  cases v <;> first | exact Or.inl rfl | exact Or.inr ⟨_, rfl⟩ | cases h
theorem isRf_cat {v : Value} (h : isRf v = true) : v.category = 1 := by
  cases v <;> first | rfl | cases h
def lvs (n : Nat) (ls : List Value) : List (Nat × Value) := (List.range n).filterMap (fun j => match ls[j]? with
  | some v => if v = zz then none else some (j, v)
  | none => none)
theorem mem_lvs {n : Nat} {ls : List Value} {j : Nat} {v : Value} : (j, v) ∈ lvs n ls ↔ j < n ∧ ls[j]? = some v ∧ v ≠ zz := by
  unfold lvs
  rw [List.mem_filterMap]
  constructor
  · rintro ⟨i, hi, he⟩
    split at he
    · rename_i w hw
      by_cases hz : w = zz
      · rw [if_pos hz] at he; cases he
      · rw [if_neg hz] at he
        cases he
        exact ⟨List.mem_range.mp hi, hw, hz⟩
    · cases he
  · rintro ⟨h1, h2, h3⟩
    refine ⟨j, List.mem_range.mpr h1, ?_⟩
    rw [h2]
    simp [h3]
theorem Lok.has {n : Nat} {ls : List Value} {arr : Array Slot} (h : Lok n ls arr) : lv_has arr n (lvs n ls) := by
  refine ⟨h.1, h.2.1, fun q hq => ?_⟩
  obtain ⟨-, h2, h3⟩ := mem_lvs.mp (show (q.1, q.2) ∈ lvs n ls from hq)
  exact h.2.2 _ _ h2 h3
theorem Lok.lt {n j : Nat} {ls : List Value} {arr : Array Slot} {w : Value} (h : Lok n ls arr) (hj : ls[j]? = some w) (hz : w ≠ zz) : j < n := by
  have := h.2.2 _ _ hj hz
  rw [← h.1]
  exact (Array.getElem?_eq_some_iff.mp this).1
theorem Lok.st1 {n i : Nat} {ls : List Value} {v : Value} {arr arr' : Array Slot} (hL : Lok n ls arr) (hp : ∀ (j : Nat) (w : Value), i = j + 1 → ls[j]? = some w → w.category = 1) (h' : lv_has arr' n ((i, v) :: (lvs n ls).filter (fun q => !(q.1 == i) && !(q.1 + 1 == i && q.2.category == 2)))) : Lok n (ls.set i v) arr' := by
  refine ⟨h'.1, h'.2.1, fun j w hj hz => ?_⟩
  by_cases e : j = i
  · subst e
    by_cases hl : j < ls.length
    · rw [List.getElem?_set_self hl] at hj
      cases hj
      exact h'.2.2 _ List.mem_cons_self
    · rw [List.getElem?_eq_none (by rw [List.length_set]; omega)] at hj
      cases hj
  · rw [List.getElem?_set_ne (Ne.symm e)] at hj
    refine h'.2.2 (j, w) (List.mem_cons_of_mem _ (List.mem_filter.mpr ⟨mem_lvs.mpr ⟨hL.lt hj hz, hj, hz⟩, ?_⟩))
    by_cases e1 : j + 1 = i
    · have := hp j w e1.symm hj
      simp [e, this]
    · simp [e, e1]
theorem Lok.st2 {n i : Nat} {ls : List Value} {v : Value} {arr arr' : Array Slot} (hL : Lok n ls arr) (hp : ∀ (j : Nat) (w : Value), i = j + 1 → ls[j]? = some w → w.category = 1) (h' : lv_has arr' n ((i, v) :: (lvs n ls).filter (fun q => !(q.1 == i) && (!(q.1 == i + 1) && !(q.1 + 1 == i && q.2.category == 2))))) : Lok n ((ls.set i v).set (i + 1) zz) arr' := by
  refine ⟨h'.1, h'.2.1, fun j w hj hz => ?_⟩
  by_cases e2 : j = i + 1
  · subst e2
    by_cases hl : i + 1 < (ls.set i v).length
    · rw [List.getElem?_set_self hl] at hj
      cases hj
      exact absurd rfl hz
    · rw [List.getElem?_eq_none (by rw [List.length_set]; omega)] at hj
      cases hj
  · rw [List.getElem?_set_ne (Ne.symm e2)] at hj
    by_cases e : j = i
    · subst e
      by_cases hl : j < ls.length
      · rw [List.getElem?_set_self hl] at hj
        cases hj
        exact h'.2.2 _ List.mem_cons_self
      · rw [List.getElem?_eq_none (by rw [List.length_set]; omega)] at hj
        cases hj
    · rw [List.getElem?_set_ne (Ne.symm e)] at hj
      refine h'.2.2 (j, w) (List.mem_cons_of_mem _ (List.mem_filter.mpr ⟨mem_lvs.mpr ⟨hL.lt hj hz, hj, hz⟩, ?_⟩))
      by_cases e1 : j + 1 = i
      · have := hp j w e1.symm hj
        simp [e, e2, this]
      · simp [e, e1, e2]
/-- some locals are forgotten -/
theorem v_forget (ls' : List Value) (hf : ∀ (i : Nat) (v : Value), ls'[i]? = some v → v = zz ∨ ls[i]? = some v) (k : V g Y d pc ls' st h Q) : V g Y d pc ls st h Q :=
  V.step (fun p e R s m args below meth c H locs cells slots arr Qf hC hR hS hL kk => kk arr ⟨hL.1, hL.2.1, fun i v hi hz => (hf i v hi).elim (fun e => absurd e hz) (fun e => hL.2.2 i v e hz)⟩) k

theorem v_iconst {n : Int} {v : Int32} (hd : decode Y.2.1 pc = .ok (.iconst n, 1)) (hq : pc + 1 = q) (hv : Int32.ofInt n = v) (k : V g Y d q ls (.int v :: st) h Q) : V g Y d pc ls (st) h Q := by
  subst hq
  exact V.step (fun p e R s m args below meth c H locs cells slots arr Qf hC hR hS hL kk => lv_iconst hC.1 hC.2.1 hd hv (kk arr hL)) k
theorem v_bipush {n : Int} {v : Int32} (hd : decode Y.2.1 pc = .ok (.bipush n, 2)) (hq : pc + 2 = q) (hv : (Int8.ofInt n).toInt32 = v) (k : V g Y d q ls (.int v :: st) h Q) : V g Y d pc ls (st) h Q := by
  subst hq
  exact V.step (fun p e R s m args below meth c H locs cells slots arr Qf hC hR hS hL kk => lv_bipush hC.1 hC.2.1 hd hv (kk arr hL)) k
theorem v_sipush {n : Int} {v : Int32} (hd : decode Y.2.1 pc = .ok (.sipush n, 3)) (hq : pc + 3 = q) (hv : (Int16.ofInt n).toInt32 = v) (k : V g Y d q ls (.int v :: st) h Q) : V g Y d pc ls (st) h Q := by
  subst hq
  exact V.step (fun p e R s m args below meth c H locs cells slots arr Qf hC hR hS hL kk => lv_sipush hC.1 hC.2.1 hd hv (kk arr hL)) k
theorem v_lconst {n : Fin 2} {v : Int64} (hd : decode Y.2.1 pc = .ok (.lconst n, 1)) (hq : pc + 1 = q) (hv : Int64.ofNat (n : Nat) = v) (k : V g Y d q ls (.long v :: st) h Q) : V g Y d pc ls (st) h Q := by
  subst hq
  exact V.step (fun p e R s m args below meth c H locs cells slots arr Qf hC hR hS hL kk => lv_lconst hC.1 hC.2.1 hd hv (kk arr hL)) k
theorem v_null  (hd : decode Y.2.1 pc = .ok (.aconst_null, 1)) (hq : pc + 1 = q) (k : V g Y d q ls (.null :: st) h Q) : V g Y d pc ls (st) h Q := by
  subst hq
  exact V.step (fun p e R s m args below meth c H locs cells slots arr Qf hC hR hS hL kk => lv_null hC.1 hC.2.1 hd (kk arr hL)) k
theorem v_iadd {x y : Int32} (hd : decode Y.2.1 pc = .ok (.iadd, 1)) (hq : pc + 1 = q) (k : V g Y d q ls (.int (x + y) :: st) h Q) : V g Y d pc ls (.int y :: .int x :: st) h Q := by
  subst hq
  exact V.step (fun p e R s m args below meth c H locs cells slots arr Qf hC hR hS hL kk => lv_iadd hC.1 hC.2.1 hd (kk arr hL)) k
theorem v_isub {x y : Int32} (hd : decode Y.2.1 pc = .ok (.isub, 1)) (hq : pc + 1 = q) (k : V g Y d q ls (.int (x - y) :: st) h Q) : V g Y d pc ls (.int y :: .int x :: st) h Q := by
  subst hq
  exact V.step (fun p e R s m args below meth c H locs cells slots arr Qf hC hR hS hL kk => lv_isub hC.1 hC.2.1 hd (kk arr hL)) k
theorem v_imul {x y : Int32} (hd : decode Y.2.1 pc = .ok (.imul, 1)) (hq : pc + 1 = q) (k : V g Y d q ls (.int (x * y) :: st) h Q) : V g Y d pc ls (.int y :: .int x :: st) h Q := by
  subst hq
  exact V.step (fun p e R s m args below meth c H locs cells slots arr Qf hC hR hS hL kk => lv_imul hC.1 hC.2.1 hd (kk arr hL)) k
theorem v_iand {x y : Int32} (hd : decode Y.2.1 pc = .ok (.iand, 1)) (hq : pc + 1 = q) (k : V g Y d q ls (.int (x &&& y) :: st) h Q) : V g Y d pc ls (.int y :: .int x :: st) h Q := by
  subst hq
  exact V.step (fun p e R s m args below meth c H locs cells slots arr Qf hC hR hS hL kk => lv_iand hC.1 hC.2.1 hd (kk arr hL)) k
theorem v_ior {x y : Int32} (hd : decode Y.2.1 pc = .ok (.ior, 1)) (hq : pc + 1 = q) (k : V g Y d q ls (.int (x ||| y) :: st) h Q) : V g Y d pc ls (.int y :: .int x :: st) h Q := by
  subst hq
  exact V.step (fun p e R s m args below meth c H locs cells slots arr Qf hC hR hS hL kk => lv_ior hC.1 hC.2.1 hd (kk arr hL)) k
theorem v_ixor {x y : Int32} (hd : decode Y.2.1 pc = .ok (.ixor, 1)) (hq : pc + 1 = q) (k : V g Y d q ls (.int (x ^^^ y) :: st) h Q) : V g Y d pc ls (.int y :: .int x :: st) h Q := by
  subst hq
  exact V.step (fun p e R s m args below meth c H locs cells slots arr Qf hC hR hS hL kk => lv_ixor hC.1 hC.2.1 hd (kk arr hL)) k
theorem v_ishl {x y : Int32} (hd : decode Y.2.1 pc = .ok (.ishl, 1)) (hq : pc + 1 = q) (k : V g Y d q ls (.int (x <<< (y &&& 31)) :: st) h Q) : V g Y d pc ls (.int y :: .int x :: st) h Q := by
  subst hq
  exact V.step (fun p e R s m args below meth c H locs cells slots arr Qf hC hR hS hL kk => lv_ishl hC.1 hC.2.1 hd (kk arr hL)) k
theorem v_ishr {x y : Int32} (hd : decode Y.2.1 pc = .ok (.ishr, 1)) (hq : pc + 1 = q) (k : V g Y d q ls (.int (x >>> (y &&& 31)) :: st) h Q) : V g Y d pc ls (.int y :: .int x :: st) h Q := by
  subst hq
  exact V.step (fun p e R s m args below meth c H locs cells slots arr Qf hC hR hS hL kk => lv_ishr hC.1 hC.2.1 hd (kk arr hL)) k
theorem v_ladd {x y : Int64} (hd : decode Y.2.1 pc = .ok (.ladd, 1)) (hq : pc + 1 = q) (k : V g Y d q ls (.long (x + y) :: st) h Q) : V g Y d pc ls (.long y :: .long x :: st) h Q := by
  subst hq
  exact V.step (fun p e R s m args below meth c H locs cells slots arr Qf hC hR hS hL kk => lv_ladd hC.1 hC.2.1 hd (kk arr hL)) k
theorem v_lsub {x y : Int64} (hd : decode Y.2.1 pc = .ok (.lsub, 1)) (hq : pc + 1 = q) (k : V g Y d q ls (.long (x - y) :: st) h Q) : V g Y d pc ls (.long y :: .long x :: st) h Q := by
  subst hq
  exact V.step (fun p e R s m args below meth c H locs cells slots arr Qf hC hR hS hL kk => lv_lsub hC.1 hC.2.1 hd (kk arr hL)) k
theorem v_lmul {x y : Int64} (hd : decode Y.2.1 pc = .ok (.lmul, 1)) (hq : pc + 1 = q) (k : V g Y d q ls (.long (x * y) :: st) h Q) : V g Y d pc ls (.long y :: .long x :: st) h Q := by
  subst hq
  exact V.step (fun p e R s m args below meth c H locs cells slots arr Qf hC hR hS hL kk => lv_lmul hC.1 hC.2.1 hd (kk arr hL)) k
theorem v_land {x y : Int64} (hd : decode Y.2.1 pc = .ok (.land, 1)) (hq : pc + 1 = q) (k : V g Y d q ls (.long (x &&& y) :: st) h Q) : V g Y d pc ls (.long y :: .long x :: st) h Q := by
  subst hq
  exact V.step (fun p e R s m args below meth c H locs cells slots arr Qf hC hR hS hL kk => lv_land hC.1 hC.2.1 hd (kk arr hL)) k
theorem v_lor {x y : Int64} (hd : decode Y.2.1 pc = .ok (.lor, 1)) (hq : pc + 1 = q) (k : V g Y d q ls (.long (x ||| y) :: st) h Q) : V g Y d pc ls (.long y :: .long x :: st) h Q := by
  subst hq
  exact V.step (fun p e R s m args below meth c H locs cells slots arr Qf hC hR hS hL kk => lv_lor hC.1 hC.2.1 hd (kk arr hL)) k
theorem v_lxor {x y : Int64} (hd : decode Y.2.1 pc = .ok (.lxor, 1)) (hq : pc + 1 = q) (k : V g Y d q ls (.long (x ^^^ y) :: st) h Q) : V g Y d pc ls (.long y :: .long x :: st) h Q := by
  subst hq
  exact V.step (fun p e R s m args below meth c H locs cells slots arr Qf hC hR hS hL kk => lv_lxor hC.1 hC.2.1 hd (kk arr hL)) k
theorem v_idiv {x y : Int32} (hd : decode Y.2.1 pc = .ok (.idiv, 1)) (hq : pc + 1 = q) (hne : ¬ y = 0) (k : V g Y d q ls (.int (x / y) :: st) h Q) : V g Y d pc ls (.int y :: .int x :: st) h Q := by
  subst hq
  exact V.step (fun p e R s m args below meth c H locs cells slots arr Qf hC hR hS hL kk => lv_idiv hC.1 hC.2.1 hd hne (kk arr hL)) k
theorem v_irem {x y : Int32} (hd : decode Y.2.1 pc = .ok (.irem, 1)) (hq : pc + 1 = q) (hne : ¬ y = 0) (k : V g Y d q ls (.int (x - x / y * y) :: st) h Q) : V g Y d pc ls (.int y :: .int x :: st) h Q := by
  subst hq
  exact V.step (fun p e R s m args below meth c H locs cells slots arr Qf hC hR hS hL kk => lv_irem hC.1 hC.2.1 hd hne (kk arr hL)) k
theorem v_lrem {x y : Int64} (hd : decode Y.2.1 pc = .ok (.lrem, 1)) (hq : pc + 1 = q) (hne : ¬ y = 0) (k : V g Y d q ls (.long (x - x / y * y) :: st) h Q) : V g Y d pc ls (.long y :: .long x :: st) h Q := by
  subst hq
  exact V.step (fun p e R s m args below meth c H locs cells slots arr Qf hC hR hS hL kk => lv_lrem hC.1 hC.2.1 hd hne (kk arr hL)) k
theorem v_i2l {x : Int32} (hd : decode Y.2.1 pc = .ok (.i2l, 1)) (hq : pc + 1 = q) (k : V g Y d q ls (.long x.toInt64 :: st) h Q) : V g Y d pc ls (.int x :: st) h Q := by
  subst hq
  exact V.step (fun p e R s m args below meth c H locs cells slots arr Qf hC hR hS hL kk => lv_i2l hC.1 hC.2.1 hd rfl (kk arr hL)) k
theorem v_l2i {x : Int64} (hd : decode Y.2.1 pc = .ok (.l2i, 1)) (hq : pc + 1 = q) (k : V g Y d q ls (.int x.toInt32 :: st) h Q) : V g Y d pc ls (.long x :: st) h Q := by
  subst hq
  exact V.step (fun p e R s m args below meth c H locs cells slots arr Qf hC hR hS hL kk => lv_l2i hC.1 hC.2.1 hd rfl (kk arr hL)) k
theorem v_iushr {x y : Int32} (hd : decode Y.2.1 pc = .ok (.iushr, 1)) (hq : pc + 1 = q) (k : V g Y d q ls (.int (x.toUInt32 >>> (y.toUInt32 &&& Int32.toUInt32 31)).toInt32 :: st) h Q) : V g Y d pc ls (.int y :: .int x :: st) h Q := by
  subst hq
  exact V.step (fun p e R s m args below meth c H locs cells slots arr Qf hC hR hS hL kk => lv_iushr hC.1 hC.2.1 hd rfl (kk arr hL)) k
theorem v_lshl {x : Int64} {y : Int32} (hd : decode Y.2.1 pc = .ok (.lshl, 1)) (hq : pc + 1 = q) (k : V g Y d q ls (.long (x <<< (y.toInt64 &&& 63)) :: st) h Q) : V g Y d pc ls (.int y :: .long x :: st) h Q := by
  subst hq
  exact V.step (fun p e R s m args below meth c H locs cells slots arr Qf hC hR hS hL kk => lv_lshl hC.1 hC.2.1 hd rfl (kk arr hL)) k
theorem v_lshr {x : Int64} {y : Int32} (hd : decode Y.2.1 pc = .ok (.lshr, 1)) (hq : pc + 1 = q) (k : V g Y d q ls (.long (x >>> (y.toInt64 &&& 63)) :: st) h Q) : V g Y d pc ls (.int y :: .long x :: st) h Q := by
  subst hq
  exact V.step (fun p e R s m args below meth c H locs cells slots arr Qf hC hR hS hL kk => lv_lshr hC.1 hC.2.1 hd rfl (kk arr hL)) k
theorem v_dup {v : Value} (hd : decode Y.2.1 pc = .ok (.dup, 1)) (hq : pc + 1 = q) (hv : v.category = 1) (k : V g Y d q ls (v :: v :: st) h Q) : V g Y d pc ls (v :: st) h Q := by
  subst hq
  exact V.step (fun p e R s m args below meth c H locs cells slots arr Qf hC hR hS hL kk => lv_dup hC.1 hC.2.1 hd hv (kk arr hL)) k
theorem v_pop {v : Value} (hd : decode Y.2.1 pc = .ok (.pop, 1)) (hq : pc + 1 = q) (hv : v.category = 1) (k : V g Y d q ls (st) h Q) : V g Y d pc ls (v :: st) h Q := by
  subst hq
  exact V.step (fun p e R s m args below meth c H locs cells slots arr Qf hC hR hS hL kk => lv_pop hC.1 hC.2.1 hd hv (kk arr hL)) k
theorem v_dup_x1 {v u : Value} (hd : decode Y.2.1 pc = .ok (.dup_x1, 1)) (hq : pc + 1 = q) (hv : v.category = 1) (hu : u.category = 1) (k : V g Y d q ls (v :: u :: v :: st) h Q) : V g Y d pc ls (v :: u :: st) h Q := by
  subst hq
  exact V.step (fun p e R s m args below meth c H locs cells slots arr Qf hC hR hS hL kk => lv_dup_x1 hC.1 hC.2.1 hd hv hu (kk arr hL)) k
theorem v_dup2 {v u : Value} (hd : decode Y.2.1 pc = .ok (.dup2, 1)) (hq : pc + 1 = q) (hv : v.category = 1) (hu : u.category = 1) (k : V g Y d q ls (v :: u :: v :: u :: st) h Q) : V g Y d pc ls (v :: u :: st) h Q := by
  subst hq
  exact V.step (fun p e R s m args below meth c H locs cells slots arr Qf hC hR hS hL kk => lv_dup2_11 hC.1 hC.2.1 hd hv hu (kk arr hL)) k
theorem v_lcmp {x y : Int64} (hd : decode Y.2.1 pc = .ok (.lcmp, 1)) (hq : pc + 1 = q) (k : V g Y d q ls (.int (lg_cmp x y) :: st) h Q) : V g Y d pc ls (.long y :: .long x :: st) h Q := by
  subst hq
  exact V.step (fun p e R s m args below meth c H locs cells slots arr Qf hC hR hS hL kk => W.lcmp hC.1 hC.2.1 hd (kk arr hL)) k
theorem v_ldc {idx : Nat} {v : Int32} (hd : decode Y.2.1 pc = .ok (.ldc idx, 2)) (hq : pc + 2 = q) (hw : Cond.constant Y.1.cls idx v ∈ tb) (k : V g Y d q ls (.int v :: st) h Q) : V g Y d pc ls st h Q := by
  subst hq
  exact V.step (fun p e R s m args below meth c H locs cells slots arr Qf hC hR hS hL kk => lv_ldc hC.1 hC.2.1 hC.2.2.2.2.2.1 (hC.2.2.2.2.1 _ hw) hd (kk arr hL)) k
theorem v_ldcw {idx : Nat} {v : Int32} (hd : decode Y.2.1 pc = .ok (.ldc_w idx, 3)) (hq : pc + 3 = q) (hw : Cond.constant Y.1.cls idx v ∈ tb) (k : V g Y d q ls (.int v :: st) h Q) : V g Y d pc ls st h Q := by
  subst hq
  exact V.step (fun p e R s m args below meth c H locs cells slots arr Qf hC hR hS hL kk => lv_ldcw hC.1 hC.2.1 hC.2.2.2.2.2.1 (hC.2.2.2.2.1 _ hw) hd (kk arr hL)) k
theorem v_ldc2 {idx : Nat} {v : Int64} (hd : decode Y.2.1 pc = .ok (.ldc2_w idx, 3)) (hq : pc + 3 = q) (hw : Cond.constantLong Y.1.cls idx v ∈ tb) (k : V g Y d q ls (.long v :: st) h Q) : V g Y d pc ls st h Q := by
  subst hq
  exact V.step (fun p e R s m args below meth c H locs cells slots arr Qf hC hR hS hL kk => lv_ldc2 hC.1 hC.2.1 hC.2.2.2.2.2.1 (hC.2.2.2.2.1 _ hw) hd (kk arr hL)) k
theorem v_goto {off : Int} (hd : decode Y.2.1 pc = .ok (.goto off, 3)) (ht : (pc : Int) + off = (q : Int)) (k : V g Y d q ls st h Q) : V g Y d pc ls st h Q :=
  V.step (fun p e R s m args below meth c H locs cells slots arr Qf hC hR hS hL kk => lv_goto hC.1 hC.2.1 hd ht (kk arr hL)) k
theorem v_if_eq {x : Int32} {off : Int} {t : Nat} (hd : decode Y.2.1 pc = .ok (.ifCond .eq off, 3)) (ht : (pc : Int) + off = (t : Int)) (hq : pc + 3 = q) (kt : x = 0 → V g Y d t ls st h Q) (kf : ¬ (x = 0) → V g Y d q ls st h Q) : V g Y d pc ls (.int x :: st) h Q := by
  subst hq
  by_cases hc : x = 0
  · exact V.step (fun p e R s m args below meth c H locs cells slots arr Qf hC hR hS hL kk => lv_if_eq hC.1 hC.2.1 hd ht (fun _ => kk arr hL) (fun n => absurd hc n)) (kt hc)
  · exact V.step (fun p e R s m args below meth c H locs cells slots arr Qf hC hR hS hL kk => lv_if_eq hC.1 hC.2.1 hd ht (fun n => absurd n hc) (fun _ => kk arr hL)) (kf hc)
theorem v_icmp_eq {x y : Int32} {off : Int} {t : Nat} (hd : decode Y.2.1 pc = .ok (.if_icmp .eq off, 3)) (ht : (pc : Int) + off = (t : Int)) (hq : pc + 3 = q) (kt : x = y → V g Y d t ls st h Q) (kf : ¬ (x = y) → V g Y d q ls st h Q) : V g Y d pc ls (.int y :: .int x :: st) h Q := by
  subst hq
  by_cases hc : x = y
  · exact V.step (fun p e R s m args below meth c H locs cells slots arr Qf hC hR hS hL kk => lv_icmp_eq hC.1 hC.2.1 hd ht (fun _ => kk arr hL) (fun n => absurd hc n)) (kt hc)
  · exact V.step (fun p e R s m args below meth c H locs cells slots arr Qf hC hR hS hL kk => lv_icmp_eq hC.1 hC.2.1 hd ht (fun n => absurd n hc) (fun _ => kk arr hL)) (kf hc)
theorem v_if_ne {x : Int32} {off : Int} {t : Nat} (hd : decode Y.2.1 pc = .ok (.ifCond .ne off, 3)) (ht : (pc : Int) + off = (t : Int)) (hq : pc + 3 = q) (kt : ¬ x = 0 → V g Y d t ls st h Q) (kf : x = 0 → V g Y d q ls st h Q) : V g Y d pc ls (.int x :: st) h Q := by
  subst hq
  by_cases hc : x = 0
  · exact V.step (fun p e R s m args below meth c H locs cells slots arr Qf hC hR hS hL kk => lv_if_ne hC.1 hC.2.1 hd ht (fun n => absurd hc n) (fun _ => kk arr hL)) (kf hc)
  · exact V.step (fun p e R s m args below meth c H locs cells slots arr Qf hC hR hS hL kk => lv_if_ne hC.1 hC.2.1 hd ht (fun _ => kk arr hL) (fun n => absurd n hc)) (kt hc)
theorem v_icmp_ne {x y : Int32} {off : Int} {t : Nat} (hd : decode Y.2.1 pc = .ok (.if_icmp .ne off, 3)) (ht : (pc : Int) + off = (t : Int)) (hq : pc + 3 = q) (kt : ¬ x = y → V g Y d t ls st h Q) (kf : x = y → V g Y d q ls st h Q) : V g Y d pc ls (.int y :: .int x :: st) h Q := by
  subst hq
  by_cases hc : x = y
  · exact V.step (fun p e R s m args below meth c H locs cells slots arr Qf hC hR hS hL kk => lv_icmp_ne hC.1 hC.2.1 hd ht (fun n => absurd hc n) (fun _ => kk arr hL)) (kf hc)
  · exact V.step (fun p e R s m args below meth c H locs cells slots arr Qf hC hR hS hL kk => lv_icmp_ne hC.1 hC.2.1 hd ht (fun _ => kk arr hL) (fun n => absurd n hc)) (kt hc)
theorem v_if_lt {x : Int32} {off : Int} {t : Nat} (hd : decode Y.2.1 pc = .ok (.ifCond .lt off, 3)) (ht : (pc : Int) + off = (t : Int)) (hq : pc + 3 = q) (kt : x < 0 → V g Y d t ls st h Q) (kf : ¬ (x < 0) → V g Y d q ls st h Q) : V g Y d pc ls (.int x :: st) h Q := by
  subst hq
  by_cases hc : x < 0
  · exact V.step (fun p e R s m args below meth c H locs cells slots arr Qf hC hR hS hL kk => lv_if_lt hC.1 hC.2.1 hd ht (fun _ => kk arr hL) (fun n => absurd hc n)) (kt hc)
  · exact V.step (fun p e R s m args below meth c H locs cells slots arr Qf hC hR hS hL kk => lv_if_lt hC.1 hC.2.1 hd ht (fun n => absurd n hc) (fun _ => kk arr hL)) (kf hc)
theorem v_icmp_lt {x y : Int32} {off : Int} {t : Nat} (hd : decode Y.2.1 pc = .ok (.if_icmp .lt off, 3)) (ht : (pc : Int) + off = (t : Int)) (hq : pc + 3 = q) (kt : x < y → V g Y d t ls st h Q) (kf : ¬ (x < y) → V g Y d q ls st h Q) : V g Y d pc ls (.int y :: .int x :: st) h Q := by
  subst hq
  by_cases hc : x < y
  · exact V.step (fun p e R s m args below meth c H locs cells slots arr Qf hC hR hS hL kk => lv_icmp_lt hC.1 hC.2.1 hd ht (fun _ => kk arr hL) (fun n => absurd hc n)) (kt hc)
  · exact V.step (fun p e R s m args below meth c H locs cells slots arr Qf hC hR hS hL kk => lv_icmp_lt hC.1 hC.2.1 hd ht (fun n => absurd n hc) (fun _ => kk arr hL)) (kf hc)
theorem v_if_ge {x : Int32} {off : Int} {t : Nat} (hd : decode Y.2.1 pc = .ok (.ifCond .ge off, 3)) (ht : (pc : Int) + off = (t : Int)) (hq : pc + 3 = q) (kt : 0 ≤ x → V g Y d t ls st h Q) (kf : ¬ (0 ≤ x) → V g Y d q ls st h Q) : V g Y d pc ls (.int x :: st) h Q := by
  subst hq
  by_cases hc : 0 ≤ x
  · exact V.step (fun p e R s m args below meth c H locs cells slots arr Qf hC hR hS hL kk => lv_if_ge hC.1 hC.2.1 hd ht (fun _ => kk arr hL) (fun n => absurd hc n)) (kt hc)
  · exact V.step (fun p e R s m args below meth c H locs cells slots arr Qf hC hR hS hL kk => lv_if_ge hC.1 hC.2.1 hd ht (fun n => absurd n hc) (fun _ => kk arr hL)) (kf hc)
theorem v_icmp_ge {x y : Int32} {off : Int} {t : Nat} (hd : decode Y.2.1 pc = .ok (.if_icmp .ge off, 3)) (ht : (pc : Int) + off = (t : Int)) (hq : pc + 3 = q) (kt : y ≤ x → V g Y d t ls st h Q) (kf : ¬ (y ≤ x) → V g Y d q ls st h Q) : V g Y d pc ls (.int y :: .int x :: st) h Q := by
  subst hq
  by_cases hc : y ≤ x
  · exact V.step (fun p e R s m args below meth c H locs cells slots arr Qf hC hR hS hL kk => lv_icmp_ge hC.1 hC.2.1 hd ht (fun _ => kk arr hL) (fun n => absurd hc n)) (kt hc)
  · exact V.step (fun p e R s m args below meth c H locs cells slots arr Qf hC hR hS hL kk => lv_icmp_ge hC.1 hC.2.1 hd ht (fun n => absurd n hc) (fun _ => kk arr hL)) (kf hc)
theorem v_if_gt {x : Int32} {off : Int} {t : Nat} (hd : decode Y.2.1 pc = .ok (.ifCond .gt off, 3)) (ht : (pc : Int) + off = (t : Int)) (hq : pc + 3 = q) (kt : 0 < x → V g Y d t ls st h Q) (kf : ¬ (0 < x) → V g Y d q ls st h Q) : V g Y d pc ls (.int x :: st) h Q := by
  subst hq
  by_cases hc : 0 < x
  · exact V.step (fun p e R s m args below meth c H locs cells slots arr Qf hC hR hS hL kk => lv_if_gt hC.1 hC.2.1 hd ht (fun _ => kk arr hL) (fun n => absurd hc n)) (kt hc)
  · exact V.step (fun p e R s m args below meth c H locs cells slots arr Qf hC hR hS hL kk => lv_if_gt hC.1 hC.2.1 hd ht (fun n => absurd n hc) (fun _ => kk arr hL)) (kf hc)
theorem v_icmp_gt {x y : Int32} {off : Int} {t : Nat} (hd : decode Y.2.1 pc = .ok (.if_icmp .gt off, 3)) (ht : (pc : Int) + off = (t : Int)) (hq : pc + 3 = q) (kt : y < x → V g Y d t ls st h Q) (kf : ¬ (y < x) → V g Y d q ls st h Q) : V g Y d pc ls (.int y :: .int x :: st) h Q := by
  subst hq
  by_cases hc : y < x
  · exact V.step (fun p e R s m args below meth c H locs cells slots arr Qf hC hR hS hL kk => lv_icmp_gt hC.1 hC.2.1 hd ht (fun _ => kk arr hL) (fun n => absurd hc n)) (kt hc)
  · exact V.step (fun p e R s m args below meth c H locs cells slots arr Qf hC hR hS hL kk => lv_icmp_gt hC.1 hC.2.1 hd ht (fun n => absurd n hc) (fun _ => kk arr hL)) (kf hc)
theorem v_if_le {x : Int32} {off : Int} {t : Nat} (hd : decode Y.2.1 pc = .ok (.ifCond .le off, 3)) (ht : (pc : Int) + off = (t : Int)) (hq : pc + 3 = q) (kt : x ≤ 0 → V g Y d t ls st h Q) (kf : ¬ (x ≤ 0) → V g Y d q ls st h Q) : V g Y d pc ls (.int x :: st) h Q := by
  subst hq
  by_cases hc : x ≤ 0
  · exact V.step (fun p e R s m args below meth c H locs cells slots arr Qf hC hR hS hL kk => lv_if_le hC.1 hC.2.1 hd ht (fun _ => kk arr hL) (fun n => absurd hc n)) (kt hc)
  · exact V.step (fun p e R s m args below meth c H locs cells slots arr Qf hC hR hS hL kk => lv_if_le hC.1 hC.2.1 hd ht (fun n => absurd n hc) (fun _ => kk arr hL)) (kf hc)
theorem v_icmp_le {x y : Int32} {off : Int} {t : Nat} (hd : decode Y.2.1 pc = .ok (.if_icmp .le off, 3)) (ht : (pc : Int) + off = (t : Int)) (hq : pc + 3 = q) (kt : x ≤ y → V g Y d t ls st h Q) (kf : ¬ (x ≤ y) → V g Y d q ls st h Q) : V g Y d pc ls (.int y :: .int x :: st) h Q := by
  subst hq
  by_cases hc : x ≤ y
  · exact V.step (fun p e R s m args below meth c H locs cells slots arr Qf hC hR hS hL kk => lv_icmp_le hC.1 hC.2.1 hd ht (fun _ => kk arr hL) (fun n => absurd hc n)) (kt hc)
  · exact V.step (fun p e R s m args below meth c H locs cells slots arr Qf hC hR hS hL kk => lv_icmp_le hC.1 hC.2.1 hd ht (fun n => absurd n hc) (fun _ => kk arr hL)) (kf hc)
theorem v_ifnull {r : Option Nat} {off : Int} {t : Nat} (hd : decode Y.2.1 pc = .ok (.ifnull off, 3)) (ht : (pc : Int) + off = (t : Int)) (hq : pc + 3 = q) (kt : r = none → V g Y d t ls st h Q) (kf : ∀ a, r = some a → V g Y d q ls st h Q) : V g Y d pc ls (va_rf r :: st) h Q := by
  subst hq
  cases r with
  | none => exact V.step (fun p e R s m args below meth c H locs cells slots arr Qf hC hR hS hL kk => lv_ifnullN hC.1 hC.2.1 hd ht (kk arr hL)) (kt rfl)
  | some a => exact V.step (fun p e R s m args below meth c H locs cells slots arr Qf hC hR hS hL kk => lv_ifnull hC.1 hC.2.1 hd (kk arr hL)) (kf a rfl)
theorem v_ifnonnull {r : Option Nat} {off : Int} {t : Nat} (hd : decode Y.2.1 pc = .ok (.ifnonnull off, 3)) (ht : (pc : Int) + off = (t : Int)) (hq : pc + 3 = q) (kt : ∀ a, r = some a → V g Y d t ls st h Q) (kf : r = none → V g Y d q ls st h Q) : V g Y d pc ls (va_rf r :: st) h Q := by
  subst hq
  cases r with
  | none => exact V.step (fun p e R s m args below meth c H locs cells slots arr Qf hC hR hS hL kk => lv_ifnonnullN hC.1 hC.2.1 hd (kk arr hL)) (kf rfl)
  | some a => exact V.step (fun p e R s m args below meth c H locs cells slots arr Qf hC hR hS hL kk => lv_ifnonnull hC.1 hC.2.1 hd ht (kk arr hL)) (kt a rfl)
theorem v_acmp_eq {rx ry : Option Nat} {off : Int} {t : Nat} (hd : decode Y.2.1 pc = .ok (.if_acmp .eq off, 3)) (ht : (pc : Int) + off = (t : Int)) (hq : pc + 3 = q) (kt : rx = ry → V g Y d t ls st h Q) (kf : ¬ rx = ry → V g Y d q ls st h Q) : V g Y d pc ls (va_rf ry :: va_rf rx :: st) h Q := by
  subst hq
  by_cases hc : rx = ry
  · exact V.step (fun p e R s m args below meth c H locs cells slots arr Qf hC hR hS hL kk => lv_acmp_eq hC.1 hC.2.1 hd ht (fun _ => kk arr hL) (fun n => absurd hc n)) (kt hc)
  · exact V.step (fun p e R s m args below meth c H locs cells slots arr Qf hC hR hS hL kk => lv_acmp_eq hC.1 hC.2.1 hd ht (fun n => absurd n hc) (fun _ => kk arr hL)) (kf hc)
theorem v_acmp_ne {rx ry : Option Nat} {off : Int} {t : Nat} (hd : decode Y.2.1 pc = .ok (.if_acmp .ne off, 3)) (ht : (pc : Int) + off = (t : Int)) (hq : pc + 3 = q) (kt : ¬ rx = ry → V g Y d t ls st h Q) (kf : rx = ry → V g Y d q ls st h Q) : V g Y d pc ls (va_rf ry :: va_rf rx :: st) h Q := by
  subst hq
  by_cases hc : rx = ry
  · exact V.step (fun p e R s m args below meth c H locs cells slots arr Qf hC hR hS hL kk => lv_acmp_ne hC.1 hC.2.1 hd ht (fun n => absurd hc n) (fun _ => kk arr hL)) (kf hc)
  · exact V.step (fun p e R s m args below meth c H locs cells slots arr Qf hC hR hS hL kk => lv_acmp_ne hC.1 hC.2.1 hd ht (fun _ => kk arr hL) (fun n => absurd n hc)) (kt hc)
theorem v_tableOut {dflt lo hi : Int} {offs : Array Int} {len : Nat} {x : Int32} {t : Nat} (hd : decode Y.2.1 pc = .ok (.tableswitch dflt lo hi offs, len)) (hx : x.toInt < lo ∨ hi < x.toInt) (ht : (pc : Int) + dflt = (t : Int)) (k : V g Y d t ls st h Q) : V g Y d pc ls (.int x :: st) h Q :=
  V.step (fun p e R s m args below meth c H locs cells slots arr Qf hC hR hS hL kk => lv_tableOut hC.1 hC.2.1 hd hx ht (kk arr hL)) k
theorem v_tableIn {dflt lo hi : Int} {offs : Array Int} {len : Nat} {x : Int32} (j : Nat) {off : Int} {t : Nat} (hd : decode Y.2.1 pc = .ok (.tableswitch dflt lo hi offs, len)) (hx : x.toInt = lo + j) (hj : lo + j ≤ hi) (ho : offs[j]? = some off) (ht : (pc : Int) + off = (t : Int)) (k : V g Y d t ls st h Q) : V g Y d pc ls (.int x :: st) h Q :=
  V.step (fun p e R s m args below meth c H locs cells slots arr Qf hC hR hS hL kk => lv_tableIn hC.1 hC.2.1 hd (by omega) (by omega) (off := off) (by rw [show (x.toInt - lo).toNat = j by omega]; exact ho) ht (kk arr hL)) k
theorem v_lookup {dflt : Int} {ps : Array (Int × Int)} {len : Nat} {x : Int32} {off : Int} {t : Nat} (hd : decode Y.2.1 pc = .ok (.lookupswitch dflt ps, len)) (hp : (ps.toList.zip (ps.toList.drop 1)).all (fun (a, next) => a.1 < next.1) = true) (ho : Op.lookupswitch.offset ps.toList dflt x.toInt = off) (ht : (pc : Int) + off = (t : Int)) (k : V g Y d t ls st h Q) : V g Y d pc ls (.int x :: st) h Q :=
  V.step (fun p e R s m args below meth c H locs cells slots arr Qf hC hR hS hL kk => lv_lookup hC.1 hC.2.1 hd hp ho ht (kk arr hL)) k
theorem v_ild0 {r : List Value} {x : Int32} (hd : decode Y.2.1 pc = .ok (.iload_n 0, 1)) (hq : pc + 1 = q) (k : V g Y d q (.int x :: r) (.int x :: st) h Q) : V g Y d pc (.int x :: r) st h Q := by
  subst hq
  exact V.step (fun p e R s m args below meth c H locs cells slots arr Qf hC hR hS hL kk => lv_iload_n hC.1 hC.2.1 hd rfl (hL.2.2 0 _ rfl (fun e => by cases e)) (kk arr hL)) k
theorem v_lld0 {r : List Value} {x : Int64} (hd : decode Y.2.1 pc = .ok (.lload_n 0, 1)) (hq : pc + 1 = q) (k : V g Y d q (.long x :: r) (.long x :: st) h Q) : V g Y d pc (.long x :: r) st h Q := by
  subst hq
  exact V.step (fun p e R s m args below meth c H locs cells slots arr Qf hC hR hS hL kk => lv_lload_n hC.1 hC.2.1 hd rfl (hL.2.2 0 _ rfl (fun e => by cases e)) (kk arr hL)) k
theorem v_ald0 {r : List Value} {v : Value} (hd : decode Y.2.1 pc = .ok (.aload_n 0, 1)) (hq : pc + 1 = q) (hv : isRf v = true) (k : V g Y d q (v :: r) (v :: st) h Q) : V g Y d pc (v :: r) st h Q := by
  subst hq
  rcases isRf_or hv with rfl | ⟨x, rfl⟩
  · exact V.step (fun p e R s m args below meth c H locs cells slots arr Qf hC hR hS hL kk => lv_aload_nN hC.1 hC.2.1 hd rfl (hL.2.2 0 _ rfl (fun e => by cases e)) (kk arr hL)) k
  · exact V.step (fun p e R s m args below meth c H locs cells slots arr Qf hC hR hS hL kk => lv_aload_n hC.1 hC.2.1 hd rfl (hL.2.2 0 _ rfl (fun e => by cases e)) (kk arr hL)) k
theorem v_ist0 { u : Value}  {r : List Value} {x : Int32} (hd : decode Y.2.1 pc = .ok (.istore_n 0, 1)) (hq : pc + 1 = q) (hi : 0 < Y.2.2.1) (k : V g Y d q (.int x :: r) st h Q) : V g Y d pc (u :: r) (.int x :: st) h Q := by
  subst hq
  exact V.step (fun p e R s m args below meth c H locs cells slots arr Qf hC hR hS hL kk => lv_istore_n hC.1 hC.2.1 hd rfl hL.has hi rfl (fun arr' h' => kk arr' (Lok.st1 hL (fun j w e hw => by omega) h'))) k
theorem v_ast0 { u v : Value}  {r : List Value} (hd : decode Y.2.1 pc = .ok (.astore_n 0, 1)) (hq : pc + 1 = q) (hi : 0 < Y.2.2.1) (hv : isRf v = true) (k : V g Y d q (v :: r) st h Q) : V g Y d pc (u :: r) (v :: st) h Q := by
  subst hq
  rcases isRf_or hv with rfl | ⟨x, rfl⟩
  · exact V.step (fun p e R s m args below meth c H locs cells slots arr Qf hC hR hS hL kk => lv_astore_nN hC.1 hC.2.1 hd rfl hL.has hi rfl (fun arr' h' => kk arr' (Lok.st1 hL (fun j w e hw => by omega) h'))) k
  · exact V.step (fun p e R s m args below meth c H locs cells slots arr Qf hC hR hS hL kk => lv_astore_n hC.1 hC.2.1 hd rfl hL.has hi rfl (fun arr' h' => kk arr' (Lok.st1 hL (fun j w e hw => by omega) h'))) k
theorem v_lst0 { u u2 : Value}  {r : List Value} {x : Int64} (hd : decode Y.2.1 pc = .ok (.lstore_n 0, 1)) (hq : pc + 1 = q) (hi : 0 + 1 < Y.2.2.1) (k : V g Y d q (.long x :: zz :: r) st h Q) : V g Y d pc (u :: u2 :: r) (.long x :: st) h Q := by
  subst hq
  exact V.step (fun p e R s m args below meth c H locs cells slots arr Qf hC hR hS hL kk => lv_lstore_n hC.1 hC.2.1 hd rfl hL.has hi rfl (fun arr' h' => kk arr' (Lok.st2 hL (fun j w e hw => by omega) h'))) k
theorem v_inc0 {r : List Value} {x v : Int32} {n : Int} (hd : decode Y.2.1 pc = .ok (.iinc 0 n, 3)) (hq : pc + 3 = q) (hi : 0 < Y.2.2.1) (hv : x + Int32.ofInt n = v) (k : V g Y d q (.int v :: r) st h Q) : V g Y d pc (.int x :: r) st h Q := by
  subst hq
  refine V.step (fun p e R s m args below meth c H locs cells slots arr Qf hC hR hS hL kk => ?_) k
  obtain ⟨j, hj⟩ := List.getElem?_of_mem (mem_lvs.mpr ⟨hi, (show (.int x :: r)[0]? = some (.int x) from rfl), fun e => by cases e⟩)
  exact lv_iinc hC.1 hC.2.1 hd hL.has hj hv hi rfl (fun arr' h' => kk arr' (Lok.st1 hL (fun j w e hw => by omega) h'))
theorem v_ild1 {a0 : Value} {r : List Value} {x : Int32} (hd : decode Y.2.1 pc = .ok (.iload_n 1, 1)) (hq : pc + 1 = q) (k : V g Y d q (a0 :: .int x :: r) (.int x :: st) h Q) : V g Y d pc (a0 :: .int x :: r) st h Q := by
  subst hq
  exact V.step (fun p e R s m args below meth c H locs cells slots arr Qf hC hR hS hL kk => lv_iload_n hC.1 hC.2.1 hd rfl (hL.2.2 1 _ rfl (fun e => by cases e)) (kk arr hL)) k
theorem v_lld1 {a0 : Value} {r : List Value} {x : Int64} (hd : decode Y.2.1 pc = .ok (.lload_n 1, 1)) (hq : pc + 1 = q) (k : V g Y d q (a0 :: .long x :: r) (.long x :: st) h Q) : V g Y d pc (a0 :: .long x :: r) st h Q := by
  subst hq
  exact V.step (fun p e R s m args below meth c H locs cells slots arr Qf hC hR hS hL kk => lv_lload_n hC.1 hC.2.1 hd rfl (hL.2.2 1 _ rfl (fun e => by cases e)) (kk arr hL)) k
theorem v_ald1 {a0 : Value} {r : List Value} {v : Value} (hd : decode Y.2.1 pc = .ok (.aload_n 1, 1)) (hq : pc + 1 = q) (hv : isRf v = true) (k : V g Y d q (a0 :: v :: r) (v :: st) h Q) : V g Y d pc (a0 :: v :: r) st h Q := by
  subst hq
  rcases isRf_or hv with rfl | ⟨x, rfl⟩
  · exact V.step (fun p e R s m args below meth c H locs cells slots arr Qf hC hR hS hL kk => lv_aload_nN hC.1 hC.2.1 hd rfl (hL.2.2 1 _ rfl (fun e => by cases e)) (kk arr hL)) k
  · exact V.step (fun p e R s m args below meth c H locs cells slots arr Qf hC hR hS hL kk => lv_aload_n hC.1 hC.2.1 hd rfl (hL.2.2 1 _ rfl (fun e => by cases e)) (kk arr hL)) k
theorem v_ist1 {a0 u : Value}  {r : List Value} {x : Int32} (hd : decode Y.2.1 pc = .ok (.istore_n 1, 1)) (hq : pc + 1 = q) (hi : 1 < Y.2.2.1) (hp : a0.category = 1) (k : V g Y d q (a0 :: .int x :: r) st h Q) : V g Y d pc (a0 :: u :: r) (.int x :: st) h Q := by
  subst hq
  exact V.step (fun p e R s m args below meth c H locs cells slots arr Qf hC hR hS hL kk => lv_istore_n hC.1 hC.2.1 hd rfl hL.has hi rfl (fun arr' h' => kk arr' (Lok.st1 hL (fun j w e hw => by cases (show j = 0 by omega); cases hw; exact hp) h'))) k
theorem v_ast1 {a0 u v : Value}  {r : List Value} (hd : decode Y.2.1 pc = .ok (.astore_n 1, 1)) (hq : pc + 1 = q) (hi : 1 < Y.2.2.1) (hp : a0.category = 1) (hv : isRf v = true) (k : V g Y d q (a0 :: v :: r) st h Q) : V g Y d pc (a0 :: u :: r) (v :: st) h Q := by
  subst hq
  rcases isRf_or hv with rfl | ⟨x, rfl⟩
  · exact V.step (fun p e R s m args below meth c H locs cells slots arr Qf hC hR hS hL kk => lv_astore_nN hC.1 hC.2.1 hd rfl hL.has hi rfl (fun arr' h' => kk arr' (Lok.st1 hL (fun j w e hw => by cases (show j = 0 by omega); cases hw; exact hp) h'))) k
  · exact V.step (fun p e R s m args below meth c H locs cells slots arr Qf hC hR hS hL kk => lv_astore_n hC.1 hC.2.1 hd rfl hL.has hi rfl (fun arr' h' => kk arr' (Lok.st1 hL (fun j w e hw => by cases (show j = 0 by omega); cases hw; exact hp) h'))) k
theorem v_lst1 {a0 u u2 : Value}  {r : List Value} {x : Int64} (hd : decode Y.2.1 pc = .ok (.lstore_n 1, 1)) (hq : pc + 1 = q) (hi : 1 + 1 < Y.2.2.1) (hp : a0.category = 1) (k : V g Y d q (a0 :: .long x :: zz :: r) st h Q) : V g Y d pc (a0 :: u :: u2 :: r) (.long x :: st) h Q := by
  subst hq
  exact V.step (fun p e R s m args below meth c H locs cells slots arr Qf hC hR hS hL kk => lv_lstore_n hC.1 hC.2.1 hd rfl hL.has hi rfl (fun arr' h' => kk arr' (Lok.st2 hL (fun j w e hw => by cases (show j = 0 by omega); cases hw; exact hp) h'))) k
theorem v_inc1 {a0 : Value} {r : List Value} {x v : Int32} {n : Int} (hd : decode Y.2.1 pc = .ok (.iinc 1 n, 3)) (hq : pc + 3 = q) (hi : 1 < Y.2.2.1) (hp : a0.category = 1) (hv : x + Int32.ofInt n = v) (k : V g Y d q (a0 :: .int v :: r) st h Q) : V g Y d pc (a0 :: .int x :: r) st h Q := by
  subst hq
  refine V.step (fun p e R s m args below meth c H locs cells slots arr Qf hC hR hS hL kk => ?_) k
  obtain ⟨j, hj⟩ := List.getElem?_of_mem (mem_lvs.mpr ⟨hi, (show (a0 :: .int x :: r)[1]? = some (.int x) from rfl), fun e => by cases e⟩)
  exact lv_iinc hC.1 hC.2.1 hd hL.has hj hv hi rfl (fun arr' h' => kk arr' (Lok.st1 hL (fun j w e hw => by cases (show j = 0 by omega); cases hw; exact hp) h'))
theorem v_ild2 {a0 a1 : Value} {r : List Value} {x : Int32} (hd : decode Y.2.1 pc = .ok (.iload_n 2, 1)) (hq : pc + 1 = q) (k : V g Y d q (a0 :: a1 :: .int x :: r) (.int x :: st) h Q) : V g Y d pc (a0 :: a1 :: .int x :: r) st h Q := by
  subst hq
  exact V.step (fun p e R s m args below meth c H locs cells slots arr Qf hC hR hS hL kk => lv_iload_n hC.1 hC.2.1 hd rfl (hL.2.2 2 _ rfl (fun e => by cases e)) (kk arr hL)) k
theorem v_lld2 {a0 a1 : Value} {r : List Value} {x : Int64} (hd : decode Y.2.1 pc = .ok (.lload_n 2, 1)) (hq : pc + 1 = q) (k : V g Y d q (a0 :: a1 :: .long x :: r) (.long x :: st) h Q) : V g Y d pc (a0 :: a1 :: .long x :: r) st h Q := by
  subst hq
  exact V.step (fun p e R s m args below meth c H locs cells slots arr Qf hC hR hS hL kk => lv_lload_n hC.1 hC.2.1 hd rfl (hL.2.2 2 _ rfl (fun e => by cases e)) (kk arr hL)) k
theorem v_ald2 {a0 a1 : Value} {r : List Value} {v : Value} (hd : decode Y.2.1 pc = .ok (.aload_n 2, 1)) (hq : pc + 1 = q) (hv : isRf v = true) (k : V g Y d q (a0 :: a1 :: v :: r) (v :: st) h Q) : V g Y d pc (a0 :: a1 :: v :: r) st h Q := by
  subst hq
  rcases isRf_or hv with rfl | ⟨x, rfl⟩
  · exact V.step (fun p e R s m args below meth c H locs cells slots arr Qf hC hR hS hL kk => lv_aload_nN hC.1 hC.2.1 hd rfl (hL.2.2 2 _ rfl (fun e => by cases e)) (kk arr hL)) k
  · exact V.step (fun p e R s m args below meth c H locs cells slots arr Qf hC hR hS hL kk => lv_aload_n hC.1 hC.2.1 hd rfl (hL.2.2 2 _ rfl (fun e => by cases e)) (kk arr hL)) k
theorem v_ist2 {a0 a1 u : Value}  {r : List Value} {x : Int32} (hd : decode Y.2.1 pc = .ok (.istore_n 2, 1)) (hq : pc + 1 = q) (hi : 2 < Y.2.2.1) (hp : a1.category = 1) (k : V g Y d q (a0 :: a1 :: .int x :: r) st h Q) : V g Y d pc (a0 :: a1 :: u :: r) (.int x :: st) h Q := by
  subst hq
  exact V.step (fun p e R s m args below meth c H locs cells slots arr Qf hC hR hS hL kk => lv_istore_n hC.1 hC.2.1 hd rfl hL.has hi rfl (fun arr' h' => kk arr' (Lok.st1 hL (fun j w e hw => by cases (show j = 1 by omega); cases hw; exact hp) h'))) k
theorem v_ast2 {a0 a1 u v : Value}  {r : List Value} (hd : decode Y.2.1 pc = .ok (.astore_n 2, 1)) (hq : pc + 1 = q) (hi : 2 < Y.2.2.1) (hp : a1.category = 1) (hv : isRf v = true) (k : V g Y d q (a0 :: a1 :: v :: r) st h Q) : V g Y d pc (a0 :: a1 :: u :: r) (v :: st) h Q := by
  subst hq
  rcases isRf_or hv with rfl | ⟨x, rfl⟩
  · exact V.step (fun p e R s m args below meth c H locs cells slots arr Qf hC hR hS hL kk => lv_astore_nN hC.1 hC.2.1 hd rfl hL.has hi rfl (fun arr' h' => kk arr' (Lok.st1 hL (fun j w e hw => by cases (show j = 1 by omega); cases hw; exact hp) h'))) k
  · exact V.step (fun p e R s m args below meth c H locs cells slots arr Qf hC hR hS hL kk => lv_astore_n hC.1 hC.2.1 hd rfl hL.has hi rfl (fun arr' h' => kk arr' (Lok.st1 hL (fun j w e hw => by cases (show j = 1 by omega); cases hw; exact hp) h'))) k
theorem v_lst2 {a0 a1 u u2 : Value}  {r : List Value} {x : Int64} (hd : decode Y.2.1 pc = .ok (.lstore_n 2, 1)) (hq : pc + 1 = q) (hi : 2 + 1 < Y.2.2.1) (hp : a1.category = 1) (k : V g Y d q (a0 :: a1 :: .long x :: zz :: r) st h Q) : V g Y d pc (a0 :: a1 :: u :: u2 :: r) (.long x :: st) h Q := by
  subst hq
  exact V.step (fun p e R s m args below meth c H locs cells slots arr Qf hC hR hS hL kk => lv_lstore_n hC.1 hC.2.1 hd rfl hL.has hi rfl (fun arr' h' => kk arr' (Lok.st2 hL (fun j w e hw => by cases (show j = 1 by omega); cases hw; exact hp) h'))) k
theorem v_inc2 {a0 a1 : Value} {r : List Value} {x v : Int32} {n : Int} (hd : decode Y.2.1 pc = .ok (.iinc 2 n, 3)) (hq : pc + 3 = q) (hi : 2 < Y.2.2.1) (hp : a1.category = 1) (hv : x + Int32.ofInt n = v) (k : V g Y d q (a0 :: a1 :: .int v :: r) st h Q) : V g Y d pc (a0 :: a1 :: .int x :: r) st h Q := by
  subst hq
  refine V.step (fun p e R s m args below meth c H locs cells slots arr Qf hC hR hS hL kk => ?_) k
  obtain ⟨j, hj⟩ := List.getElem?_of_mem (mem_lvs.mpr ⟨hi, (show (a0 :: a1 :: .int x :: r)[2]? = some (.int x) from rfl), fun e => by cases e⟩)
  exact lv_iinc hC.1 hC.2.1 hd hL.has hj hv hi rfl (fun arr' h' => kk arr' (Lok.st1 hL (fun j w e hw => by cases (show j = 1 by omega); cases hw; exact hp) h'))
theorem v_ild3 {a0 a1 a2 : Value} {r : List Value} {x : Int32} (hd : decode Y.2.1 pc = .ok (.iload_n 3, 1)) (hq : pc + 1 = q) (k : V g Y d q (a0 :: a1 :: a2 :: .int x :: r) (.int x :: st) h Q) : V g Y d pc (a0 :: a1 :: a2 :: .int x :: r) st h Q := by
  subst hq
  exact V.step (fun p e R s m args below meth c H locs cells slots arr Qf hC hR hS hL kk => lv_iload_n hC.1 hC.2.1 hd rfl (hL.2.2 3 _ rfl (fun e => by cases e)) (kk arr hL)) k
theorem v_lld3 {a0 a1 a2 : Value} {r : List Value} {x : Int64} (hd : decode Y.2.1 pc = .ok (.lload_n 3, 1)) (hq : pc + 1 = q) (k : V g Y d q (a0 :: a1 :: a2 :: .long x :: r) (.long x :: st) h Q) : V g Y d pc (a0 :: a1 :: a2 :: .long x :: r) st h Q := by
  subst hq
  exact V.step (fun p e R s m args below meth c H locs cells slots arr Qf hC hR hS hL kk => lv_lload_n hC.1 hC.2.1 hd rfl (hL.2.2 3 _ rfl (fun e => by cases e)) (kk arr hL)) k
theorem v_ald3 {a0 a1 a2 : Value} {r : List Value} {v : Value} (hd : decode Y.2.1 pc = .ok (.aload_n 3, 1)) (hq : pc + 1 = q) (hv : isRf v = true) (k : V g Y d q (a0 :: a1 :: a2 :: v :: r) (v :: st) h Q) : V g Y d pc (a0 :: a1 :: a2 :: v :: r) st h Q := by
  subst hq
  rcases isRf_or hv with rfl | ⟨x, rfl⟩
  · exact V.step (fun p e R s m args below meth c H locs cells slots arr Qf hC hR hS hL kk => lv_aload_nN hC.1 hC.2.1 hd rfl (hL.2.2 3 _ rfl (fun e => by cases e)) (kk arr hL)) k
  · exact V.step (fun p e R s m args below meth c H locs cells slots arr Qf hC hR hS hL kk => lv_aload_n hC.1 hC.2.1 hd rfl (hL.2.2 3 _ rfl (fun e => by cases e)) (kk arr hL)) k
theorem v_ist3 {a0 a1 a2 u : Value}  {r : List Value} {x : Int32} (hd : decode Y.2.1 pc = .ok (.istore_n 3, 1)) (hq : pc + 1 = q) (hi : 3 < Y.2.2.1) (hp : a2.category = 1) (k : V g Y d q (a0 :: a1 :: a2 :: .int x :: r) st h Q) : V g Y d pc (a0 :: a1 :: a2 :: u :: r) (.int x :: st) h Q := by
  subst hq
  exact V.step (fun p e R s m args below meth c H locs cells slots arr Qf hC hR hS hL kk => lv_istore_n hC.1 hC.2.1 hd rfl hL.has hi rfl (fun arr' h' => kk arr' (Lok.st1 hL (fun j w e hw => by cases (show j = 2 by omega); cases hw; exact hp) h'))) k
theorem v_ast3 {a0 a1 a2 u v : Value}  {r : List Value} (hd : decode Y.2.1 pc = .ok (.astore_n 3, 1)) (hq : pc + 1 = q) (hi : 3 < Y.2.2.1) (hp : a2.category = 1) (hv : isRf v = true) (k : V g Y d q (a0 :: a1 :: a2 :: v :: r) st h Q) : V g Y d pc (a0 :: a1 :: a2 :: u :: r) (v :: st) h Q := by
  subst hq
  rcases isRf_or hv with rfl | ⟨x, rfl⟩
  · exact V.step (fun p e R s m args below meth c H locs cells slots arr Qf hC hR hS hL kk => lv_astore_nN hC.1 hC.2.1 hd rfl hL.has hi rfl (fun arr' h' => kk arr' (Lok.st1 hL (fun j w e hw => by cases (show j = 2 by omega); cases hw; exact hp) h'))) k
  · exact V.step (fun p e R s m args below meth c H locs cells slots arr Qf hC hR hS hL kk => lv_astore_n hC.1 hC.2.1 hd rfl hL.has hi rfl (fun arr' h' => kk arr' (Lok.st1 hL (fun j w e hw => by cases (show j = 2 by omega); cases hw; exact hp) h'))) k
theorem v_lst3 {a0 a1 a2 u u2 : Value}  {r : List Value} {x : Int64} (hd : decode Y.2.1 pc = .ok (.lstore_n 3, 1)) (hq : pc + 1 = q) (hi : 3 + 1 < Y.2.2.1) (hp : a2.category = 1) (k : V g Y d q (a0 :: a1 :: a2 :: .long x :: zz :: r) st h Q) : V g Y d pc (a0 :: a1 :: a2 :: u :: u2 :: r) (.long x :: st) h Q := by
  subst hq
  exact V.step (fun p e R s m args below meth c H locs cells slots arr Qf hC hR hS hL kk => lv_lstore_n hC.1 hC.2.1 hd rfl hL.has hi rfl (fun arr' h' => kk arr' (Lok.st2 hL (fun j w e hw => by cases (show j = 2 by omega); cases hw; exact hp) h'))) k
theorem v_inc3 {a0 a1 a2 : Value} {r : List Value} {x v : Int32} {n : Int} (hd : decode Y.2.1 pc = .ok (.iinc 3 n, 3)) (hq : pc + 3 = q) (hi : 3 < Y.2.2.1) (hp : a2.category = 1) (hv : x + Int32.ofInt n = v) (k : V g Y d q (a0 :: a1 :: a2 :: .int v :: r) st h Q) : V g Y d pc (a0 :: a1 :: a2 :: .int x :: r) st h Q := by
  subst hq
  refine V.step (fun p e R s m args below meth c H locs cells slots arr Qf hC hR hS hL kk => ?_) k
  obtain ⟨j, hj⟩ := List.getElem?_of_mem (mem_lvs.mpr ⟨hi, (show (a0 :: a1 :: a2 :: .int x :: r)[3]? = some (.int x) from rfl), fun e => by cases e⟩)
  exact lv_iinc hC.1 hC.2.1 hd hL.has hj hv hi rfl (fun arr' h' => kk arr' (Lok.st1 hL (fun j w e hw => by cases (show j = 2 by omega); cases hw; exact hp) h'))
theorem v_ild4 {a0 a1 a2 a3 : Value} {r : List Value} {x : Int32} (hd : decode Y.2.1 pc = .ok (.iload 4, 2)) (hq : pc + 2 = q) (k : V g Y d q (a0 :: a1 :: a2 :: a3 :: .int x :: r) (.int x :: st) h Q) : V g Y d pc (a0 :: a1 :: a2 :: a3 :: .int x :: r) st h Q := by
  subst hq
  exact V.step (fun p e R s m args below meth c H locs cells slots arr Qf hC hR hS hL kk => lv_iload hC.1 hC.2.1 hd (hL.2.2 4 _ rfl (fun e => by cases e)) (kk arr hL)) k
theorem v_lld4 {a0 a1 a2 a3 : Value} {r : List Value} {x : Int64} (hd : decode Y.2.1 pc = .ok (.lload 4, 2)) (hq : pc + 2 = q) (k : V g Y d q (a0 :: a1 :: a2 :: a3 :: .long x :: r) (.long x :: st) h Q) : V g Y d pc (a0 :: a1 :: a2 :: a3 :: .long x :: r) st h Q := by
  subst hq
  exact V.step (fun p e R s m args below meth c H locs cells slots arr Qf hC hR hS hL kk => lv_lload hC.1 hC.2.1 hd (hL.2.2 4 _ rfl (fun e => by cases e)) (kk arr hL)) k
theorem v_ald4 {a0 a1 a2 a3 : Value} {r : List Value} {v : Value} (hd : decode Y.2.1 pc = .ok (.aload 4, 2)) (hq : pc + 2 = q) (hv : isRf v = true) (k : V g Y d q (a0 :: a1 :: a2 :: a3 :: v :: r) (v :: st) h Q) : V g Y d pc (a0 :: a1 :: a2 :: a3 :: v :: r) st h Q := by
  subst hq
  rcases isRf_or hv with rfl | ⟨x, rfl⟩
  · exact V.step (fun p e R s m args below meth c H locs cells slots arr Qf hC hR hS hL kk => lv_aloadN hC.1 hC.2.1 hd (hL.2.2 4 _ rfl (fun e => by cases e)) (kk arr hL)) k
  · exact V.step (fun p e R s m args below meth c H locs cells slots arr Qf hC hR hS hL kk => lv_aload hC.1 hC.2.1 hd (hL.2.2 4 _ rfl (fun e => by cases e)) (kk arr hL)) k
theorem v_ist4 {a0 a1 a2 a3 u : Value}  {r : List Value} {x : Int32} (hd : decode Y.2.1 pc = .ok (.istore 4, 2)) (hq : pc + 2 = q) (hi : 4 < Y.2.2.1) (hp : a3.category = 1) (k : V g Y d q (a0 :: a1 :: a2 :: a3 :: .int x :: r) st h Q) : V g Y d pc (a0 :: a1 :: a2 :: a3 :: u :: r) (.int x :: st) h Q := by
  subst hq
  exact V.step (fun p e R s m args below meth c H locs cells slots arr Qf hC hR hS hL kk => lv_istore hC.1 hC.2.1 hd hL.has hi rfl (fun arr' h' => kk arr' (Lok.st1 hL (fun j w e hw => by cases (show j = 3 by omega); cases hw; exact hp) h'))) k
theorem v_ast4 {a0 a1 a2 a3 u v : Value}  {r : List Value} (hd : decode Y.2.1 pc = .ok (.astore 4, 2)) (hq : pc + 2 = q) (hi : 4 < Y.2.2.1) (hp : a3.category = 1) (hv : isRf v = true) (k : V g Y d q (a0 :: a1 :: a2 :: a3 :: v :: r) st h Q) : V g Y d pc (a0 :: a1 :: a2 :: a3 :: u :: r) (v :: st) h Q := by
  subst hq
  rcases isRf_or hv with rfl | ⟨x, rfl⟩
  · exact V.step (fun p e R s m args below meth c H locs cells slots arr Qf hC hR hS hL kk => lv_astoreN hC.1 hC.2.1 hd hL.has hi rfl (fun arr' h' => kk arr' (Lok.st1 hL (fun j w e hw => by cases (show j = 3 by omega); cases hw; exact hp) h'))) k
  · exact V.step (fun p e R s m args below meth c H locs cells slots arr Qf hC hR hS hL kk => lv_astore hC.1 hC.2.1 hd hL.has hi rfl (fun arr' h' => kk arr' (Lok.st1 hL (fun j w e hw => by cases (show j = 3 by omega); cases hw; exact hp) h'))) k
theorem v_lst4 {a0 a1 a2 a3 u u2 : Value}  {r : List Value} {x : Int64} (hd : decode Y.2.1 pc = .ok (.lstore 4, 2)) (hq : pc + 2 = q) (hi : 4 + 1 < Y.2.2.1) (hp : a3.category = 1) (k : V g Y d q (a0 :: a1 :: a2 :: a3 :: .long x :: zz :: r) st h Q) : V g Y d pc (a0 :: a1 :: a2 :: a3 :: u :: u2 :: r) (.long x :: st) h Q := by
  subst hq
  exact V.step (fun p e R s m args below meth c H locs cells slots arr Qf hC hR hS hL kk => lv_lstore hC.1 hC.2.1 hd hL.has hi rfl (fun arr' h' => kk arr' (Lok.st2 hL (fun j w e hw => by cases (show j = 3 by omega); cases hw; exact hp) h'))) k
theorem v_inc4 {a0 a1 a2 a3 : Value} {r : List Value} {x v : Int32} {n : Int} (hd : decode Y.2.1 pc = .ok (.iinc 4 n, 3)) (hq : pc + 3 = q) (hi : 4 < Y.2.2.1) (hp : a3.category = 1) (hv : x + Int32.ofInt n = v) (k : V g Y d q (a0 :: a1 :: a2 :: a3 :: .int v :: r) st h Q) : V g Y d pc (a0 :: a1 :: a2 :: a3 :: .int x :: r) st h Q := by
  subst hq
  refine V.step (fun p e R s m args below meth c H locs cells slots arr Qf hC hR hS hL kk => ?_) k
  obtain ⟨j, hj⟩ := List.getElem?_of_mem (mem_lvs.mpr ⟨hi, (show (a0 :: a1 :: a2 :: a3 :: .int x :: r)[4]? = some (.int x) from rfl), fun e => by cases e⟩)
  exact lv_iinc hC.1 hC.2.1 hd hL.has hj hv hi rfl (fun arr' h' => kk arr' (Lok.st1 hL (fun j w e hw => by cases (show j = 3 by omega); cases hw; exact hp) h'))
theorem v_ild5 {a0 a1 a2 a3 a4 : Value} {r : List Value} {x : Int32} (hd : decode Y.2.1 pc = .ok (.iload 5, 2)) (hq : pc + 2 = q) (k : V g Y d q (a0 :: a1 :: a2 :: a3 :: a4 :: .int x :: r) (.int x :: st) h Q) : V g Y d pc (a0 :: a1 :: a2 :: a3 :: a4 :: .int x :: r) st h Q := by
  subst hq
  exact V.step (fun p e R s m args below meth c H locs cells slots arr Qf hC hR hS hL kk => lv_iload hC.1 hC.2.1 hd (hL.2.2 5 _ rfl (fun e => by cases e)) (kk arr hL)) k
theorem v_lld5 {a0 a1 a2 a3 a4 : Value} {r : List Value} {x : Int64} (hd : decode Y.2.1 pc = .ok (.lload 5, 2)) (hq : pc + 2 = q) (k : V g Y d q (a0 :: a1 :: a2 :: a3 :: a4 :: .long x :: r) (.long x :: st) h Q) : V g Y d pc (a0 :: a1 :: a2 :: a3 :: a4 :: .long x :: r) st h Q := by
  subst hq
  exact V.step (fun p e R s m args below meth c H locs cells slots arr Qf hC hR hS hL kk => lv_lload hC.1 hC.2.1 hd (hL.2.2 5 _ rfl (fun e => by cases e)) (kk arr hL)) k
theorem v_ald5 {a0 a1 a2 a3 a4 : Value} {r : List Value} {v : Value} (hd : decode Y.2.1 pc = .ok (.aload 5, 2)) (hq : pc + 2 = q) (hv : isRf v = true) (k : V g Y d q (a0 :: a1 :: a2 :: a3 :: a4 :: v :: r) (v :: st) h Q) : V g Y d pc (a0 :: a1 :: a2 :: a3 :: a4 :: v :: r) st h Q := by
  subst hq
  rcases isRf_or hv with rfl | ⟨x, rfl⟩
  · exact V.step (fun p e R s m args below meth c H locs cells slots arr Qf hC hR hS hL kk => lv_aloadN hC.1 hC.2.1 hd (hL.2.2 5 _ rfl (fun e => by cases e)) (kk arr hL)) k
  · exact V.step (fun p e R s m args below meth c H locs cells slots arr Qf hC hR hS hL kk => lv_aload hC.1 hC.2.1 hd (hL.2.2 5 _ rfl (fun e => by cases e)) (kk arr hL)) k
theorem v_ist5 {a0 a1 a2 a3 a4 u : Value}  {r : List Value} {x : Int32} (hd : decode Y.2.1 pc = .ok (.istore 5, 2)) (hq : pc + 2 = q) (hi : 5 < Y.2.2.1) (hp : a4.category = 1) (k : V g Y d q (a0 :: a1 :: a2 :: a3 :: a4 :: .int x :: r) st h Q) : V g Y d pc (a0 :: a1 :: a2 :: a3 :: a4 :: u :: r) (.int x :: st) h Q := by
  subst hq
  exact V.step (fun p e R s m args below meth c H locs cells slots arr Qf hC hR hS hL kk => lv_istore hC.1 hC.2.1 hd hL.has hi rfl (fun arr' h' => kk arr' (Lok.st1 hL (fun j w e hw => by cases (show j = 4 by omega); cases hw; exact hp) h'))) k
theorem v_ast5 {a0 a1 a2 a3 a4 u v : Value}  {r : List Value} (hd : decode Y.2.1 pc = .ok (.astore 5, 2)) (hq : pc + 2 = q) (hi : 5 < Y.2.2.1) (hp : a4.category = 1) (hv : isRf v = true) (k : V g Y d q (a0 :: a1 :: a2 :: a3 :: a4 :: v :: r) st h Q) : V g Y d pc (a0 :: a1 :: a2 :: a3 :: a4 :: u :: r) (v :: st) h Q := by
  subst hq
  rcases isRf_or hv with rfl | ⟨x, rfl⟩
  · exact V.step (fun p e R s m args below meth c H locs cells slots arr Qf hC hR hS hL kk => lv_astoreN hC.1 hC.2.1 hd hL.has hi rfl (fun arr' h' => kk arr' (Lok.st1 hL (fun j w e hw => by cases (show j = 4 by omega); cases hw; exact hp) h'))) k
  · exact V.step (fun p e R s m args below meth c H locs cells slots arr Qf hC hR hS hL kk => lv_astore hC.1 hC.2.1 hd hL.has hi rfl (fun arr' h' => kk arr' (Lok.st1 hL (fun j w e hw => by cases (show j = 4 by omega); cases hw; exact hp) h'))) k
theorem v_lst5 {a0 a1 a2 a3 a4 u u2 : Value}  {r : List Value} {x : Int64} (hd : decode Y.2.1 pc = .ok (.lstore 5, 2)) (hq : pc + 2 = q) (hi : 5 + 1 < Y.2.2.1) (hp : a4.category = 1) (k : V g Y d q (a0 :: a1 :: a2 :: a3 :: a4 :: .long x :: zz :: r) st h Q) : V g Y d pc (a0 :: a1 :: a2 :: a3 :: a4 :: u :: u2 :: r) (.long x :: st) h Q := by
  subst hq
  exact V.step (fun p e R s m args below meth c H locs cells slots arr Qf hC hR hS hL kk => lv_lstore hC.1 hC.2.1 hd hL.has hi rfl (fun arr' h' => kk arr' (Lok.st2 hL (fun j w e hw => by cases (show j = 4 by omega); cases hw; exact hp) h'))) k
theorem v_inc5 {a0 a1 a2 a3 a4 : Value} {r : List Value} {x v : Int32} {n : Int} (hd : decode Y.2.1 pc = .ok (.iinc 5 n, 3)) (hq : pc + 3 = q) (hi : 5 < Y.2.2.1) (hp : a4.category = 1) (hv : x + Int32.ofInt n = v) (k : V g Y d q (a0 :: a1 :: a2 :: a3 :: a4 :: .int v :: r) st h Q) : V g Y d pc (a0 :: a1 :: a2 :: a3 :: a4 :: .int x :: r) st h Q := by
  subst hq
  refine V.step (fun p e R s m args below meth c H locs cells slots arr Qf hC hR hS hL kk => ?_) k
  obtain ⟨j, hj⟩ := List.getElem?_of_mem (mem_lvs.mpr ⟨hi, (show (a0 :: a1 :: a2 :: a3 :: a4 :: .int x :: r)[5]? = some (.int x) from rfl), fun e => by cases e⟩)
  exact lv_iinc hC.1 hC.2.1 hd hL.has hj hv hi rfl (fun arr' h' => kk arr' (Lok.st1 hL (fun j w e hw => by cases (show j = 4 by omega); cases hw; exact hp) h'))
theorem v_ild6 {a0 a1 a2 a3 a4 a5 : Value} {r : List Value} {x : Int32} (hd : decode Y.2.1 pc = .ok (.iload 6, 2)) (hq : pc + 2 = q) (k : V g Y d q (a0 :: a1 :: a2 :: a3 :: a4 :: a5 :: .int x :: r) (.int x :: st) h Q) : V g Y d pc (a0 :: a1 :: a2 :: a3 :: a4 :: a5 :: .int x :: r) st h Q := by
  subst hq
  exact V.step (fun p e R s m args below meth c H locs cells slots arr Qf hC hR hS hL kk => lv_iload hC.1 hC.2.1 hd (hL.2.2 6 _ rfl (fun e => by cases e)) (kk arr hL)) k
theorem v_lld6 {a0 a1 a2 a3 a4 a5 : Value} {r : List Value} {x : Int64} (hd : decode Y.2.1 pc = .ok (.lload 6, 2)) (hq : pc + 2 = q) (k : V g Y d q (a0 :: a1 :: a2 :: a3 :: a4 :: a5 :: .long x :: r) (.long x :: st) h Q) : V g Y d pc (a0 :: a1 :: a2 :: a3 :: a4 :: a5 :: .long x :: r) st h Q := by
  subst hq
  exact V.step (fun p e R s m args below meth c H locs cells slots arr Qf hC hR hS hL kk => lv_lload hC.1 hC.2.1 hd (hL.2.2 6 _ rfl (fun e => by cases e)) (kk arr hL)) k
theorem v_ald6 {a0 a1 a2 a3 a4 a5 : Value} {r : List Value} {v : Value} (hd : decode Y.2.1 pc = .ok (.aload 6, 2)) (hq : pc + 2 = q) (hv : isRf v = true) (k : V g Y d q (a0 :: a1 :: a2 :: a3 :: a4 :: a5 :: v :: r) (v :: st) h Q) : V g Y d pc (a0 :: a1 :: a2 :: a3 :: a4 :: a5 :: v :: r) st h Q := by
  subst hq
  rcases isRf_or hv with rfl | ⟨x, rfl⟩
  · exact V.step (fun p e R s m args below meth c H locs cells slots arr Qf hC hR hS hL kk => lv_aloadN hC.1 hC.2.1 hd (hL.2.2 6 _ rfl (fun e => by cases e)) (kk arr hL)) k
  · exact V.step (fun p e R s m args below meth c H locs cells slots arr Qf hC hR hS hL kk => lv_aload hC.1 hC.2.1 hd (hL.2.2 6 _ rfl (fun e => by cases e)) (kk arr hL)) k
theorem v_ist6 {a0 a1 a2 a3 a4 a5 u : Value}  {r : List Value} {x : Int32} (hd : decode Y.2.1 pc = .ok (.istore 6, 2)) (hq : pc + 2 = q) (hi : 6 < Y.2.2.1) (hp : a5.category = 1) (k : V g Y d q (a0 :: a1 :: a2 :: a3 :: a4 :: a5 :: .int x :: r) st h Q) : V g Y d pc (a0 :: a1 :: a2 :: a3 :: a4 :: a5 :: u :: r) (.int x :: st) h Q := by
  subst hq
  exact V.step (fun p e R s m args below meth c H locs cells slots arr Qf hC hR hS hL kk => lv_istore hC.1 hC.2.1 hd hL.has hi rfl (fun arr' h' => kk arr' (Lok.st1 hL (fun j w e hw => by cases (show j = 5 by omega); cases hw; exact hp) h'))) k
theorem v_ast6 {a0 a1 a2 a3 a4 a5 u v : Value}  {r : List Value} (hd : decode Y.2.1 pc = .ok (.astore 6, 2)) (hq : pc + 2 = q) (hi : 6 < Y.2.2.1) (hp : a5.category = 1) (hv : isRf v = true) (k : V g Y d q (a0 :: a1 :: a2 :: a3 :: a4 :: a5 :: v :: r) st h Q) : V g Y d pc (a0 :: a1 :: a2 :: a3 :: a4 :: a5 :: u :: r) (v :: st) h Q := by
  subst hq
  rcases isRf_or hv with rfl | ⟨x, rfl⟩
  · exact V.step (fun p e R s m args below meth c H locs cells slots arr Qf hC hR hS hL kk => lv_astoreN hC.1 hC.2.1 hd hL.has hi rfl (fun arr' h' => kk arr' (Lok.st1 hL (fun j w e hw => by cases (show j = 5 by omega); cases hw; exact hp) h'))) k
  · exact V.step (fun p e R s m args below meth c H locs cells slots arr Qf hC hR hS hL kk => lv_astore hC.1 hC.2.1 hd hL.has hi rfl (fun arr' h' => kk arr' (Lok.st1 hL (fun j w e hw => by cases (show j = 5 by omega); cases hw; exact hp) h'))) k
theorem v_lst6 {a0 a1 a2 a3 a4 a5 u u2 : Value}  {r : List Value} {x : Int64} (hd : decode Y.2.1 pc = .ok (.lstore 6, 2)) (hq : pc + 2 = q) (hi : 6 + 1 < Y.2.2.1) (hp : a5.category = 1) (k : V g Y d q (a0 :: a1 :: a2 :: a3 :: a4 :: a5 :: .long x :: zz :: r) st h Q) : V g Y d pc (a0 :: a1 :: a2 :: a3 :: a4 :: a5 :: u :: u2 :: r) (.long x :: st) h Q := by
  subst hq
  exact V.step (fun p e R s m args below meth c H locs cells slots arr Qf hC hR hS hL kk => lv_lstore hC.1 hC.2.1 hd hL.has hi rfl (fun arr' h' => kk arr' (Lok.st2 hL (fun j w e hw => by cases (show j = 5 by omega); cases hw; exact hp) h'))) k
theorem v_inc6 {a0 a1 a2 a3 a4 a5 : Value} {r : List Value} {x v : Int32} {n : Int} (hd : decode Y.2.1 pc = .ok (.iinc 6 n, 3)) (hq : pc + 3 = q) (hi : 6 < Y.2.2.1) (hp : a5.category = 1) (hv : x + Int32.ofInt n = v) (k : V g Y d q (a0 :: a1 :: a2 :: a3 :: a4 :: a5 :: .int v :: r) st h Q) : V g Y d pc (a0 :: a1 :: a2 :: a3 :: a4 :: a5 :: .int x :: r) st h Q := by
  subst hq
  refine V.step (fun p e R s m args below meth c H locs cells slots arr Qf hC hR hS hL kk => ?_) k
  obtain ⟨j, hj⟩ := List.getElem?_of_mem (mem_lvs.mpr ⟨hi, (show (a0 :: a1 :: a2 :: a3 :: a4 :: a5 :: .int x :: r)[6]? = some (.int x) from rfl), fun e => by cases e⟩)
  exact lv_iinc hC.1 hC.2.1 hd hL.has hj hv hi rfl (fun arr' h' => kk arr' (Lok.st1 hL (fun j w e hw => by cases (show j = 5 by omega); cases hw; exact hp) h'))
theorem v_ild7 {a0 a1 a2 a3 a4 a5 a6 : Value} {r : List Value} {x : Int32} (hd : decode Y.2.1 pc = .ok (.iload 7, 2)) (hq : pc + 2 = q) (k : V g Y d q (a0 :: a1 :: a2 :: a3 :: a4 :: a5 :: a6 :: .int x :: r) (.int x :: st) h Q) : V g Y d pc (a0 :: a1 :: a2 :: a3 :: a4 :: a5 :: a6 :: .int x :: r) st h Q := by
  subst hq
  exact V.step (fun p e R s m args below meth c H locs cells slots arr Qf hC hR hS hL kk => lv_iload hC.1 hC.2.1 hd (hL.2.2 7 _ rfl (fun e => by cases e)) (kk arr hL)) k
theorem v_lld7 {a0 a1 a2 a3 a4 a5 a6 : Value} {r : List Value} {x : Int64} (hd : decode Y.2.1 pc = .ok (.lload 7, 2)) (hq : pc + 2 = q) (k : V g Y d q (a0 :: a1 :: a2 :: a3 :: a4 :: a5 :: a6 :: .long x :: r) (.long x :: st) h Q) : V g Y d pc (a0 :: a1 :: a2 :: a3 :: a4 :: a5 :: a6 :: .long x :: r) st h Q := by
  subst hq
  exact V.step (fun p e R s m args below meth c H locs cells slots arr Qf hC hR hS hL kk => lv_lload hC.1 hC.2.1 hd (hL.2.2 7 _ rfl (fun e => by cases e)) (kk arr hL)) k
theorem v_ald7 {a0 a1 a2 a3 a4 a5 a6 : Value} {r : List Value} {v : Value} (hd : decode Y.2.1 pc = .ok (.aload 7, 2)) (hq : pc + 2 = q) (hv : isRf v = true) (k : V g Y d q (a0 :: a1 :: a2 :: a3 :: a4 :: a5 :: a6 :: v :: r) (v :: st) h Q) : V g Y d pc (a0 :: a1 :: a2 :: a3 :: a4 :: a5 :: a6 :: v :: r) st h Q := by
  subst hq
  rcases isRf_or hv with rfl | ⟨x, rfl⟩
  · exact V.step (fun p e R s m args below meth c H locs cells slots arr Qf hC hR hS hL kk => lv_aloadN hC.1 hC.2.1 hd (hL.2.2 7 _ rfl (fun e => by cases e)) (kk arr hL)) k
  · exact V.step (fun p e R s m args below meth c H locs cells slots arr Qf hC hR hS hL kk => lv_aload hC.1 hC.2.1 hd (hL.2.2 7 _ rfl (fun e => by cases e)) (kk arr hL)) k
theorem v_ist7 {a0 a1 a2 a3 a4 a5 a6 u : Value}  {r : List Value} {x : Int32} (hd : decode Y.2.1 pc = .ok (.istore 7, 2)) (hq : pc + 2 = q) (hi : 7 < Y.2.2.1) (hp : a6.category = 1) (k : V g Y d q (a0 :: a1 :: a2 :: a3 :: a4 :: a5 :: a6 :: .int x :: r) st h Q) : V g Y d pc (a0 :: a1 :: a2 :: a3 :: a4 :: a5 :: a6 :: u :: r) (.int x :: st) h Q := by
  subst hq
  exact V.step (fun p e R s m args below meth c H locs cells slots arr Qf hC hR hS hL kk => lv_istore hC.1 hC.2.1 hd hL.has hi rfl (fun arr' h' => kk arr' (Lok.st1 hL (fun j w e hw => by cases (show j = 6 by omega); cases hw; exact hp) h'))) k
theorem v_ast7 {a0 a1 a2 a3 a4 a5 a6 u v : Value}  {r : List Value} (hd : decode Y.2.1 pc = .ok (.astore 7, 2)) (hq : pc + 2 = q) (hi : 7 < Y.2.2.1) (hp : a6.category = 1) (hv : isRf v = true) (k : V g Y d q (a0 :: a1 :: a2 :: a3 :: a4 :: a5 :: a6 :: v :: r) st h Q) : V g Y d pc (a0 :: a1 :: a2 :: a3 :: a4 :: a5 :: a6 :: u :: r) (v :: st) h Q := by
  subst hq
  rcases isRf_or hv with rfl | ⟨x, rfl⟩
  · exact V.step (fun p e R s m args below meth c H locs cells slots arr Qf hC hR hS hL kk => lv_astoreN hC.1 hC.2.1 hd hL.has hi rfl (fun arr' h' => kk arr' (Lok.st1 hL (fun j w e hw => by cases (show j = 6 by omega); cases hw; exact hp) h'))) k
  · exact V.step (fun p e R s m args below meth c H locs cells slots arr Qf hC hR hS hL kk => lv_astore hC.1 hC.2.1 hd hL.has hi rfl (fun arr' h' => kk arr' (Lok.st1 hL (fun j w e hw => by cases (show j = 6 by omega); cases hw; exact hp) h'))) k
theorem v_lst7 {a0 a1 a2 a3 a4 a5 a6 u u2 : Value}  {r : List Value} {x : Int64} (hd : decode Y.2.1 pc = .ok (.lstore 7, 2)) (hq : pc + 2 = q) (hi : 7 + 1 < Y.2.2.1) (hp : a6.category = 1) (k : V g Y d q (a0 :: a1 :: a2 :: a3 :: a4 :: a5 :: a6 :: .long x :: zz :: r) st h Q) : V g Y d pc (a0 :: a1 :: a2 :: a3 :: a4 :: a5 :: a6 :: u :: u2 :: r) (.long x :: st) h Q := by
  subst hq
  exact V.step (fun p e R s m args below meth c H locs cells slots arr Qf hC hR hS hL kk => lv_lstore hC.1 hC.2.1 hd hL.has hi rfl (fun arr' h' => kk arr' (Lok.st2 hL (fun j w e hw => by cases (show j = 6 by omega); cases hw; exact hp) h'))) k
theorem v_inc7 {a0 a1 a2 a3 a4 a5 a6 : Value} {r : List Value} {x v : Int32} {n : Int} (hd : decode Y.2.1 pc = .ok (.iinc 7 n, 3)) (hq : pc + 3 = q) (hi : 7 < Y.2.2.1) (hp : a6.category = 1) (hv : x + Int32.ofInt n = v) (k : V g Y d q (a0 :: a1 :: a2 :: a3 :: a4 :: a5 :: a6 :: .int v :: r) st h Q) : V g Y d pc (a0 :: a1 :: a2 :: a3 :: a4 :: a5 :: a6 :: .int x :: r) st h Q := by
  subst hq
  refine V.step (fun p e R s m args below meth c H locs cells slots arr Qf hC hR hS hL kk => ?_) k
  obtain ⟨j, hj⟩ := List.getElem?_of_mem (mem_lvs.mpr ⟨hi, (show (a0 :: a1 :: a2 :: a3 :: a4 :: a5 :: a6 :: .int x :: r)[7]? = some (.int x) from rfl), fun e => by cases e⟩)
  exact lv_iinc hC.1 hC.2.1 hd hL.has hj hv hi rfl (fun arr' h' => kk arr' (Lok.st1 hL (fun j w e hw => by cases (show j = 6 by omega); cases hw; exact hp) h'))
theorem v_ild8 {a0 a1 a2 a3 a4 a5 a6 a7 : Value} {r : List Value} {x : Int32} (hd : decode Y.2.1 pc = .ok (.iload 8, 2)) (hq : pc + 2 = q) (k : V g Y d q (a0 :: a1 :: a2 :: a3 :: a4 :: a5 :: a6 :: a7 :: .int x :: r) (.int x :: st) h Q) : V g Y d pc (a0 :: a1 :: a2 :: a3 :: a4 :: a5 :: a6 :: a7 :: .int x :: r) st h Q := by
  subst hq
  exact V.step (fun p e R s m args below meth c H locs cells slots arr Qf hC hR hS hL kk => lv_iload hC.1 hC.2.1 hd (hL.2.2 8 _ rfl (fun e => by cases e)) (kk arr hL)) k
theorem v_lld8 {a0 a1 a2 a3 a4 a5 a6 a7 : Value} {r : List Value} {x : Int64} (hd : decode Y.2.1 pc = .ok (.lload 8, 2)) (hq : pc + 2 = q) (k : V g Y d q (a0 :: a1 :: a2 :: a3 :: a4 :: a5 :: a6 :: a7 :: .long x :: r) (.long x :: st) h Q) : V g Y d pc (a0 :: a1 :: a2 :: a3 :: a4 :: a5 :: a6 :: a7 :: .long x :: r) st h Q := by
  subst hq
  exact V.step (fun p e R s m args below meth c H locs cells slots arr Qf hC hR hS hL kk => lv_lload hC.1 hC.2.1 hd (hL.2.2 8 _ rfl (fun e => by cases e)) (kk arr hL)) k
theorem v_ald8 {a0 a1 a2 a3 a4 a5 a6 a7 : Value} {r : List Value} {v : Value} (hd : decode Y.2.1 pc = .ok (.aload 8, 2)) (hq : pc + 2 = q) (hv : isRf v = true) (k : V g Y d q (a0 :: a1 :: a2 :: a3 :: a4 :: a5 :: a6 :: a7 :: v :: r) (v :: st) h Q) : V g Y d pc (a0 :: a1 :: a2 :: a3 :: a4 :: a5 :: a6 :: a7 :: v :: r) st h Q := by
  subst hq
  rcases isRf_or hv with rfl | ⟨x, rfl⟩
  · exact V.step (fun p e R s m args below meth c H locs cells slots arr Qf hC hR hS hL kk => lv_aloadN hC.1 hC.2.1 hd (hL.2.2 8 _ rfl (fun e => by cases e)) (kk arr hL)) k
  · exact V.step (fun p e R s m args below meth c H locs cells slots arr Qf hC hR hS hL kk => lv_aload hC.1 hC.2.1 hd (hL.2.2 8 _ rfl (fun e => by cases e)) (kk arr hL)) k
theorem v_ist8 {a0 a1 a2 a3 a4 a5 a6 a7 u : Value}  {r : List Value} {x : Int32} (hd : decode Y.2.1 pc = .ok (.istore 8, 2)) (hq : pc + 2 = q) (hi : 8 < Y.2.2.1) (hp : a7.category = 1) (k : V g Y d q (a0 :: a1 :: a2 :: a3 :: a4 :: a5 :: a6 :: a7 :: .int x :: r) st h Q) : V g Y d pc (a0 :: a1 :: a2 :: a3 :: a4 :: a5 :: a6 :: a7 :: u :: r) (.int x :: st) h Q := by
  subst hq
  exact V.step (fun p e R s m args below meth c H locs cells slots arr Qf hC hR hS hL kk => lv_istore hC.1 hC.2.1 hd hL.has hi rfl (fun arr' h' => kk arr' (Lok.st1 hL (fun j w e hw => by cases (show j = 7 by omega); cases hw; exact hp) h'))) k
theorem v_ast8 {a0 a1 a2 a3 a4 a5 a6 a7 u v : Value}  {r : List Value} (hd : decode Y.2.1 pc = .ok (.astore 8, 2)) (hq : pc + 2 = q) (hi : 8 < Y.2.2.1) (hp : a7.category = 1) (hv : isRf v = true) (k : V g Y d q (a0 :: a1 :: a2 :: a3 :: a4 :: a5 :: a6 :: a7 :: v :: r) st h Q) : V g Y d pc (a0 :: a1 :: a2 :: a3 :: a4 :: a5 :: a6 :: a7 :: u :: r) (v :: st) h Q := by
  subst hq
  rcases isRf_or hv with rfl | ⟨x, rfl⟩
  · exact V.step (fun p e R s m args below meth c H locs cells slots arr Qf hC hR hS hL kk => lv_astoreN hC.1 hC.2.1 hd hL.has hi rfl (fun arr' h' => kk arr' (Lok.st1 hL (fun j w e hw => by cases (show j = 7 by omega); cases hw; exact hp) h'))) k
  · exact V.step (fun p e R s m args below meth c H locs cells slots arr Qf hC hR hS hL kk => lv_astore hC.1 hC.2.1 hd hL.has hi rfl (fun arr' h' => kk arr' (Lok.st1 hL (fun j w e hw => by cases (show j = 7 by omega); cases hw; exact hp) h'))) k
theorem v_lst8 {a0 a1 a2 a3 a4 a5 a6 a7 u u2 : Value}  {r : List Value} {x : Int64} (hd : decode Y.2.1 pc = .ok (.lstore 8, 2)) (hq : pc + 2 = q) (hi : 8 + 1 < Y.2.2.1) (hp : a7.category = 1) (k : V g Y d q (a0 :: a1 :: a2 :: a3 :: a4 :: a5 :: a6 :: a7 :: .long x :: zz :: r) st h Q) : V g Y d pc (a0 :: a1 :: a2 :: a3 :: a4 :: a5 :: a6 :: a7 :: u :: u2 :: r) (.long x :: st) h Q := by
  subst hq
  exact V.step (fun p e R s m args below meth c H locs cells slots arr Qf hC hR hS hL kk => lv_lstore hC.1 hC.2.1 hd hL.has hi rfl (fun arr' h' => kk arr' (Lok.st2 hL (fun j w e hw => by cases (show j = 7 by omega); cases hw; exact hp) h'))) k
theorem v_inc8 {a0 a1 a2 a3 a4 a5 a6 a7 : Value} {r : List Value} {x v : Int32} {n : Int} (hd : decode Y.2.1 pc = .ok (.iinc 8 n, 3)) (hq : pc + 3 = q) (hi : 8 < Y.2.2.1) (hp : a7.category = 1) (hv : x + Int32.ofInt n = v) (k : V g Y d q (a0 :: a1 :: a2 :: a3 :: a4 :: a5 :: a6 :: a7 :: .int v :: r) st h Q) : V g Y d pc (a0 :: a1 :: a2 :: a3 :: a4 :: a5 :: a6 :: a7 :: .int x :: r) st h Q := by
  subst hq
  refine V.step (fun p e R s m args below meth c H locs cells slots arr Qf hC hR hS hL kk => ?_) k
  obtain ⟨j, hj⟩ := List.getElem?_of_mem (mem_lvs.mpr ⟨hi, (show (a0 :: a1 :: a2 :: a3 :: a4 :: a5 :: a6 :: a7 :: .int x :: r)[8]? = some (.int x) from rfl), fun e => by cases e⟩)
  exact lv_iinc hC.1 hC.2.1 hd hL.has hj hv hi rfl (fun arr' h' => kk arr' (Lok.st1 hL (fun j w e hw => by cases (show j = 7 by omega); cases hw; exact hp) h'))
theorem v_ild9 {a0 a1 a2 a3 a4 a5 a6 a7 a8 : Value} {r : List Value} {x : Int32} (hd : decode Y.2.1 pc = .ok (.iload 9, 2)) (hq : pc + 2 = q) (k : V g Y d q (a0 :: a1 :: a2 :: a3 :: a4 :: a5 :: a6 :: a7 :: a8 :: .int x :: r) (.int x :: st) h Q) : V g Y d pc (a0 :: a1 :: a2 :: a3 :: a4 :: a5 :: a6 :: a7 :: a8 :: .int x :: r) st h Q := by
  subst hq
  exact V.step (fun p e R s m args below meth c H locs cells slots arr Qf hC hR hS hL kk => lv_iload hC.1 hC.2.1 hd (hL.2.2 9 _ rfl (fun e => by cases e)) (kk arr hL)) k
theorem v_lld9 {a0 a1 a2 a3 a4 a5 a6 a7 a8 : Value} {r : List Value} {x : Int64} (hd : decode Y.2.1 pc = .ok (.lload 9, 2)) (hq : pc + 2 = q) (k : V g Y d q (a0 :: a1 :: a2 :: a3 :: a4 :: a5 :: a6 :: a7 :: a8 :: .long x :: r) (.long x :: st) h Q) : V g Y d pc (a0 :: a1 :: a2 :: a3 :: a4 :: a5 :: a6 :: a7 :: a8 :: .long x :: r) st h Q := by
  subst hq
  exact V.step (fun p e R s m args below meth c H locs cells slots arr Qf hC hR hS hL kk => lv_lload hC.1 hC.2.1 hd (hL.2.2 9 _ rfl (fun e => by cases e)) (kk arr hL)) k
theorem v_ald9 {a0 a1 a2 a3 a4 a5 a6 a7 a8 : Value} {r : List Value} {v : Value} (hd : decode Y.2.1 pc = .ok (.aload 9, 2)) (hq : pc + 2 = q) (hv : isRf v = true) (k : V g Y d q (a0 :: a1 :: a2 :: a3 :: a4 :: a5 :: a6 :: a7 :: a8 :: v :: r) (v :: st) h Q) : V g Y d pc (a0 :: a1 :: a2 :: a3 :: a4 :: a5 :: a6 :: a7 :: a8 :: v :: r) st h Q := by
  subst hq
  rcases isRf_or hv with rfl | ⟨x, rfl⟩
  · exact V.step (fun p e R s m args below meth c H locs cells slots arr Qf hC hR hS hL kk => lv_aloadN hC.1 hC.2.1 hd (hL.2.2 9 _ rfl (fun e => by cases e)) (kk arr hL)) k
  · exact V.step (fun p e R s m args below meth c H locs cells slots arr Qf hC hR hS hL kk => lv_aload hC.1 hC.2.1 hd (hL.2.2 9 _ rfl (fun e => by cases e)) (kk arr hL)) k
theorem v_ist9 {a0 a1 a2 a3 a4 a5 a6 a7 a8 u : Value}  {r : List Value} {x : Int32} (hd : decode Y.2.1 pc = .ok (.istore 9, 2)) (hq : pc + 2 = q) (hi : 9 < Y.2.2.1) (hp : a8.category = 1) (k : V g Y d q (a0 :: a1 :: a2 :: a3 :: a4 :: a5 :: a6 :: a7 :: a8 :: .int x :: r) st h Q) : V g Y d pc (a0 :: a1 :: a2 :: a3 :: a4 :: a5 :: a6 :: a7 :: a8 :: u :: r) (.int x :: st) h Q := by
  subst hq
  exact V.step (fun p e R s m args below meth c H locs cells slots arr Qf hC hR hS hL kk => lv_istore hC.1 hC.2.1 hd hL.has hi rfl (fun arr' h' => kk arr' (Lok.st1 hL (fun j w e hw => by cases (show j = 8 by omega); cases hw; exact hp) h'))) k
theorem v_ast9 {a0 a1 a2 a3 a4 a5 a6 a7 a8 u v : Value}  {r : List Value} (hd : decode Y.2.1 pc = .ok (.astore 9, 2)) (hq : pc + 2 = q) (hi : 9 < Y.2.2.1) (hp : a8.category = 1) (hv : isRf v = true) (k : V g Y d q (a0 :: a1 :: a2 :: a3 :: a4 :: a5 :: a6 :: a7 :: a8 :: v :: r) st h Q) : V g Y d pc (a0 :: a1 :: a2 :: a3 :: a4 :: a5 :: a6 :: a7 :: a8 :: u :: r) (v :: st) h Q := by
  subst hq
  rcases isRf_or hv with rfl | ⟨x, rfl⟩
  · exact V.step (fun p e R s m args below meth c H locs cells slots arr Qf hC hR hS hL kk => lv_astoreN hC.1 hC.2.1 hd hL.has hi rfl (fun arr' h' => kk arr' (Lok.st1 hL (fun j w e hw => by cases (show j = 8 by omega); cases hw; exact hp) h'))) k
  · exact V.step (fun p e R s m args below meth c H locs cells slots arr Qf hC hR hS hL kk => lv_astore hC.1 hC.2.1 hd hL.has hi rfl (fun arr' h' => kk arr' (Lok.st1 hL (fun j w e hw => by cases (show j = 8 by omega); cases hw; exact hp) h'))) k
theorem v_lst9 {a0 a1 a2 a3 a4 a5 a6 a7 a8 u u2 : Value}  {r : List Value} {x : Int64} (hd : decode Y.2.1 pc = .ok (.lstore 9, 2)) (hq : pc + 2 = q) (hi : 9 + 1 < Y.2.2.1) (hp : a8.category = 1) (k : V g Y d q (a0 :: a1 :: a2 :: a3 :: a4 :: a5 :: a6 :: a7 :: a8 :: .long x :: zz :: r) st h Q) : V g Y d pc (a0 :: a1 :: a2 :: a3 :: a4 :: a5 :: a6 :: a7 :: a8 :: u :: u2 :: r) (.long x :: st) h Q := by
  subst hq
  exact V.step (fun p e R s m args below meth c H locs cells slots arr Qf hC hR hS hL kk => lv_lstore hC.1 hC.2.1 hd hL.has hi rfl (fun arr' h' => kk arr' (Lok.st2 hL (fun j w e hw => by cases (show j = 8 by omega); cases hw; exact hp) h'))) k
theorem v_inc9 {a0 a1 a2 a3 a4 a5 a6 a7 a8 : Value} {r : List Value} {x v : Int32} {n : Int} (hd : decode Y.2.1 pc = .ok (.iinc 9 n, 3)) (hq : pc + 3 = q) (hi : 9 < Y.2.2.1) (hp : a8.category = 1) (hv : x + Int32.ofInt n = v) (k : V g Y d q (a0 :: a1 :: a2 :: a3 :: a4 :: a5 :: a6 :: a7 :: a8 :: .int v :: r) st h Q) : V g Y d pc (a0 :: a1 :: a2 :: a3 :: a4 :: a5 :: a6 :: a7 :: a8 :: .int x :: r) st h Q := by
  subst hq
  refine V.step (fun p e R s m args below meth c H locs cells slots arr Qf hC hR hS hL kk => ?_) k
  obtain ⟨j, hj⟩ := List.getElem?_of_mem (mem_lvs.mpr ⟨hi, (show (a0 :: a1 :: a2 :: a3 :: a4 :: a5 :: a6 :: a7 :: a8 :: .int x :: r)[9]? = some (.int x) from rfl), fun e => by cases e⟩)
  exact lv_iinc hC.1 hC.2.1 hd hL.has hj hv hi rfl (fun arr' h' => kk arr' (Lok.st1 hL (fun j w e hw => by cases (show j = 8 by omega); cases hw; exact hp) h'))
theorem v_ild10 {a0 a1 a2 a3 a4 a5 a6 a7 a8 a9 : Value} {r : List Value} {x : Int32} (hd : decode Y.2.1 pc = .ok (.iload 10, 2)) (hq : pc + 2 = q) (k : V g Y d q (a0 :: a1 :: a2 :: a3 :: a4 :: a5 :: a6 :: a7 :: a8 :: a9 :: .int x :: r) (.int x :: st) h Q) : V g Y d pc (a0 :: a1 :: a2 :: a3 :: a4 :: a5 :: a6 :: a7 :: a8 :: a9 :: .int x :: r) st h Q := by
  subst hq
  exact V.step (fun p e R s m args below meth c H locs cells slots arr Qf hC hR hS hL kk => lv_iload hC.1 hC.2.1 hd (hL.2.2 10 _ rfl (fun e => by cases e)) (kk arr hL)) k
theorem v_lld10 {a0 a1 a2 a3 a4 a5 a6 a7 a8 a9 : Value} {r : List Value} {x : Int64} (hd : decode Y.2.1 pc = .ok (.lload 10, 2)) (hq : pc + 2 = q) (k : V g Y d q (a0 :: a1 :: a2 :: a3 :: a4 :: a5 :: a6 :: a7 :: a8 :: a9 :: .long x :: r) (.long x :: st) h Q) : V g Y d pc (a0 :: a1 :: a2 :: a3 :: a4 :: a5 :: a6 :: a7 :: a8 :: a9 :: .long x :: r) st h Q := by
  subst hq
  exact V.step (fun p e R s m args below meth c H locs cells slots arr Qf hC hR hS hL kk => lv_lload hC.1 hC.2.1 hd (hL.2.2 10 _ rfl (fun e => by cases e)) (kk arr hL)) k
theorem v_ald10 {a0 a1 a2 a3 a4 a5 a6 a7 a8 a9 : Value} {r : List Value} {v : Value} (hd : decode Y.2.1 pc = .ok (.aload 10, 2)) (hq : pc + 2 = q) (hv : isRf v = true) (k : V g Y d q (a0 :: a1 :: a2 :: a3 :: a4 :: a5 :: a6 :: a7 :: a8 :: a9 :: v :: r) (v :: st) h Q) : V g Y d pc (a0 :: a1 :: a2 :: a3 :: a4 :: a5 :: a6 :: a7 :: a8 :: a9 :: v :: r) st h Q := by
  subst hq
  rcases isRf_or hv with rfl | ⟨x, rfl⟩
  · exact V.step (fun p e R s m args below meth c H locs cells slots arr Qf hC hR hS hL kk => lv_aloadN hC.1 hC.2.1 hd (hL.2.2 10 _ rfl (fun e => by cases e)) (kk arr hL)) k
  · exact V.step (fun p e R s m args below meth c H locs cells slots arr Qf hC hR hS hL kk => lv_aload hC.1 hC.2.1 hd (hL.2.2 10 _ rfl (fun e => by cases e)) (kk arr hL)) k
theorem v_ist10 {a0 a1 a2 a3 a4 a5 a6 a7 a8 a9 u : Value}  {r : List Value} {x : Int32} (hd : decode Y.2.1 pc = .ok (.istore 10, 2)) (hq : pc + 2 = q) (hi : 10 < Y.2.2.1) (hp : a9.category = 1) (k : V g Y d q (a0 :: a1 :: a2 :: a3 :: a4 :: a5 :: a6 :: a7 :: a8 :: a9 :: .int x :: r) st h Q) : V g Y d pc (a0 :: a1 :: a2 :: a3 :: a4 :: a5 :: a6 :: a7 :: a8 :: a9 :: u :: r) (.int x :: st) h Q := by
  subst hq
  exact V.step (fun p e R s m args below meth c H locs cells slots arr Qf hC hR hS hL kk => lv_istore hC.1 hC.2.1 hd hL.has hi rfl (fun arr' h' => kk arr' (Lok.st1 hL (fun j w e hw => by cases (show j = 9 by omega); cases hw; exact hp) h'))) k
theorem v_ast10 {a0 a1 a2 a3 a4 a5 a6 a7 a8 a9 u v : Value}  {r : List Value} (hd : decode Y.2.1 pc = .ok (.astore 10, 2)) (hq : pc + 2 = q) (hi : 10 < Y.2.2.1) (hp : a9.category = 1) (hv : isRf v = true) (k : V g Y d q (a0 :: a1 :: a2 :: a3 :: a4 :: a5 :: a6 :: a7 :: a8 :: a9 :: v :: r) st h Q) : V g Y d pc (a0 :: a1 :: a2 :: a3 :: a4 :: a5 :: a6 :: a7 :: a8 :: a9 :: u :: r) (v :: st) h Q := by
  subst hq
  rcases isRf_or hv with rfl | ⟨x, rfl⟩
  · exact V.step (fun p e R s m args below meth c H locs cells slots arr Qf hC hR hS hL kk => lv_astoreN hC.1 hC.2.1 hd hL.has hi rfl (fun arr' h' => kk arr' (Lok.st1 hL (fun j w e hw => by cases (show j = 9 by omega); cases hw; exact hp) h'))) k
  · exact V.step (fun p e R s m args below meth c H locs cells slots arr Qf hC hR hS hL kk => lv_astore hC.1 hC.2.1 hd hL.has hi rfl (fun arr' h' => kk arr' (Lok.st1 hL (fun j w e hw => by cases (show j = 9 by omega); cases hw; exact hp) h'))) k
theorem v_lst10 {a0 a1 a2 a3 a4 a5 a6 a7 a8 a9 u u2 : Value}  {r : List Value} {x : Int64} (hd : decode Y.2.1 pc = .ok (.lstore 10, 2)) (hq : pc + 2 = q) (hi : 10 + 1 < Y.2.2.1) (hp : a9.category = 1) (k : V g Y d q (a0 :: a1 :: a2 :: a3 :: a4 :: a5 :: a6 :: a7 :: a8 :: a9 :: .long x :: zz :: r) st h Q) : V g Y d pc (a0 :: a1 :: a2 :: a3 :: a4 :: a5 :: a6 :: a7 :: a8 :: a9 :: u :: u2 :: r) (.long x :: st) h Q := by
  subst hq
  exact V.step (fun p e R s m args below meth c H locs cells slots arr Qf hC hR hS hL kk => lv_lstore hC.1 hC.2.1 hd hL.has hi rfl (fun arr' h' => kk arr' (Lok.st2 hL (fun j w e hw => by cases (show j = 9 by omega); cases hw; exact hp) h'))) k
theorem v_inc10 {a0 a1 a2 a3 a4 a5 a6 a7 a8 a9 : Value} {r : List Value} {x v : Int32} {n : Int} (hd : decode Y.2.1 pc = .ok (.iinc 10 n, 3)) (hq : pc + 3 = q) (hi : 10 < Y.2.2.1) (hp : a9.category = 1) (hv : x + Int32.ofInt n = v) (k : V g Y d q (a0 :: a1 :: a2 :: a3 :: a4 :: a5 :: a6 :: a7 :: a8 :: a9 :: .int v :: r) st h Q) : V g Y d pc (a0 :: a1 :: a2 :: a3 :: a4 :: a5 :: a6 :: a7 :: a8 :: a9 :: .int x :: r) st h Q := by
  subst hq
  refine V.step (fun p e R s m args below meth c H locs cells slots arr Qf hC hR hS hL kk => ?_) k
  obtain ⟨j, hj⟩ := List.getElem?_of_mem (mem_lvs.mpr ⟨hi, (show (a0 :: a1 :: a2 :: a3 :: a4 :: a5 :: a6 :: a7 :: a8 :: a9 :: .int x :: r)[10]? = some (.int x) from rfl), fun e => by cases e⟩)
  exact lv_iinc hC.1 hC.2.1 hd hL.has hj hv hi rfl (fun arr' h' => kk arr' (Lok.st1 hL (fun j w e hw => by cases (show j = 9 by omega); cases hw; exact hp) h'))
theorem v_ild11 {a0 a1 a2 a3 a4 a5 a6 a7 a8 a9 a10 : Value} {r : List Value} {x : Int32} (hd : decode Y.2.1 pc = .ok (.iload 11, 2)) (hq : pc + 2 = q) (k : V g Y d q (a0 :: a1 :: a2 :: a3 :: a4 :: a5 :: a6 :: a7 :: a8 :: a9 :: a10 :: .int x :: r) (.int x :: st) h Q) : V g Y d pc (a0 :: a1 :: a2 :: a3 :: a4 :: a5 :: a6 :: a7 :: a8 :: a9 :: a10 :: .int x :: r) st h Q := by
  subst hq
  exact V.step (fun p e R s m args below meth c H locs cells slots arr Qf hC hR hS hL kk => lv_iload hC.1 hC.2.1 hd (hL.2.2 11 _ rfl (fun e => by cases e)) (kk arr hL)) k
theorem v_lld11 {a0 a1 a2 a3 a4 a5 a6 a7 a8 a9 a10 : Value} {r : List Value} {x : Int64} (hd : decode Y.2.1 pc = .ok (.lload 11, 2)) (hq : pc + 2 = q) (k : V g Y d q (a0 :: a1 :: a2 :: a3 :: a4 :: a5 :: a6 :: a7 :: a8 :: a9 :: a10 :: .long x :: r) (.long x :: st) h Q) : V g Y d pc (a0 :: a1 :: a2 :: a3 :: a4 :: a5 :: a6 :: a7 :: a8 :: a9 :: a10 :: .long x :: r) st h Q := by
  subst hq
  exact V.step (fun p e R s m args below meth c H locs cells slots arr Qf hC hR hS hL kk => lv_lload hC.1 hC.2.1 hd (hL.2.2 11 _ rfl (fun e => by cases e)) (kk arr hL)) k
theorem v_ald11 {a0 a1 a2 a3 a4 a5 a6 a7 a8 a9 a10 : Value} {r : List Value} {v : Value} (hd : decode Y.2.1 pc = .ok (.aload 11, 2)) (hq : pc + 2 = q) (hv : isRf v = true) (k : V g Y d q (a0 :: a1 :: a2 :: a3 :: a4 :: a5 :: a6 :: a7 :: a8 :: a9 :: a10 :: v :: r) (v :: st) h Q) : V g Y d pc (a0 :: a1 :: a2 :: a3 :: a4 :: a5 :: a6 :: a7 :: a8 :: a9 :: a10 :: v :: r) st h Q := by
  subst hq
  rcases isRf_or hv with rfl | ⟨x, rfl⟩
  · exact V.step (fun p e R s m args below meth c H locs cells slots arr Qf hC hR hS hL kk => lv_aloadN hC.1 hC.2.1 hd (hL.2.2 11 _ rfl (fun e => by cases e)) (kk arr hL)) k
  · exact V.step (fun p e R s m args below meth c H locs cells slots arr Qf hC hR hS hL kk => lv_aload hC.1 hC.2.1 hd (hL.2.2 11 _ rfl (fun e => by cases e)) (kk arr hL)) k
theorem v_ist11 {a0 a1 a2 a3 a4 a5 a6 a7 a8 a9 a10 u : Value}  {r : List Value} {x : Int32} (hd : decode Y.2.1 pc = .ok (.istore 11, 2)) (hq : pc + 2 = q) (hi : 11 < Y.2.2.1) (hp : a10.category = 1) (k : V g Y d q (a0 :: a1 :: a2 :: a3 :: a4 :: a5 :: a6 :: a7 :: a8 :: a9 :: a10 :: .int x :: r) st h Q) : V g Y d pc (a0 :: a1 :: a2 :: a3 :: a4 :: a5 :: a6 :: a7 :: a8 :: a9 :: a10 :: u :: r) (.int x :: st) h Q := by
  subst hq
  exact V.step (fun p e R s m args below meth c H locs cells slots arr Qf hC hR hS hL kk => lv_istore hC.1 hC.2.1 hd hL.has hi rfl (fun arr' h' => kk arr' (Lok.st1 hL (fun j w e hw => by cases (show j = 10 by omega); cases hw; exact hp) h'))) k
theorem v_ast11 {a0 a1 a2 a3 a4 a5 a6 a7 a8 a9 a10 u v : Value}  {r : List Value} (hd : decode Y.2.1 pc = .ok (.astore 11, 2)) (hq : pc + 2 = q) (hi : 11 < Y.2.2.1) (hp : a10.category = 1) (hv : isRf v = true) (k : V g Y d q (a0 :: a1 :: a2 :: a3 :: a4 :: a5 :: a6 :: a7 :: a8 :: a9 :: a10 :: v :: r) st h Q) : V g Y d pc (a0 :: a1 :: a2 :: a3 :: a4 :: a5 :: a6 :: a7 :: a8 :: a9 :: a10 :: u :: r) (v :: st) h Q := by
  subst hq
  rcases isRf_or hv with rfl | ⟨x, rfl⟩
  · exact V.step (fun p e R s m args below meth c H locs cells slots arr Qf hC hR hS hL kk => lv_astoreN hC.1 hC.2.1 hd hL.has hi rfl (fun arr' h' => kk arr' (Lok.st1 hL (fun j w e hw => by cases (show j = 10 by omega); cases hw; exact hp) h'))) k
  · exact V.step (fun p e R s m args below meth c H locs cells slots arr Qf hC hR hS hL kk => lv_astore hC.1 hC.2.1 hd hL.has hi rfl (fun arr' h' => kk arr' (Lok.st1 hL (fun j w e hw => by cases (show j = 10 by omega); cases hw; exact hp) h'))) k
theorem v_lst11 {a0 a1 a2 a3 a4 a5 a6 a7 a8 a9 a10 u u2 : Value}  {r : List Value} {x : Int64} (hd : decode Y.2.1 pc = .ok (.lstore 11, 2)) (hq : pc + 2 = q) (hi : 11 + 1 < Y.2.2.1) (hp : a10.category = 1) (k : V g Y d q (a0 :: a1 :: a2 :: a3 :: a4 :: a5 :: a6 :: a7 :: a8 :: a9 :: a10 :: .long x :: zz :: r) st h Q) : V g Y d pc (a0 :: a1 :: a2 :: a3 :: a4 :: a5 :: a6 :: a7 :: a8 :: a9 :: a10 :: u :: u2 :: r) (.long x :: st) h Q := by
  subst hq
  exact V.step (fun p e R s m args below meth c H locs cells slots arr Qf hC hR hS hL kk => lv_lstore hC.1 hC.2.1 hd hL.has hi rfl (fun arr' h' => kk arr' (Lok.st2 hL (fun j w e hw => by cases (show j = 10 by omega); cases hw; exact hp) h'))) k
theorem v_inc11 {a0 a1 a2 a3 a4 a5 a6 a7 a8 a9 a10 : Value} {r : List Value} {x v : Int32} {n : Int} (hd : decode Y.2.1 pc = .ok (.iinc 11 n, 3)) (hq : pc + 3 = q) (hi : 11 < Y.2.2.1) (hp : a10.category = 1) (hv : x + Int32.ofInt n = v) (k : V g Y d q (a0 :: a1 :: a2 :: a3 :: a4 :: a5 :: a6 :: a7 :: a8 :: a9 :: a10 :: .int v :: r) st h Q) : V g Y d pc (a0 :: a1 :: a2 :: a3 :: a4 :: a5 :: a6 :: a7 :: a8 :: a9 :: a10 :: .int x :: r) st h Q := by
  subst hq
  refine V.step (fun p e R s m args below meth c H locs cells slots arr Qf hC hR hS hL kk => ?_) k
  obtain ⟨j, hj⟩ := List.getElem?_of_mem (mem_lvs.mpr ⟨hi, (show (a0 :: a1 :: a2 :: a3 :: a4 :: a5 :: a6 :: a7 :: a8 :: a9 :: a10 :: .int x :: r)[11]? = some (.int x) from rfl), fun e => by cases e⟩)
  exact lv_iinc hC.1 hC.2.1 hd hL.has hj hv hi rfl (fun arr' h' => kk arr' (Lok.st1 hL (fun j w e hw => by cases (show j = 10 by omega); cases hw; exact hp) h'))
theorem v_ild12 {a0 a1 a2 a3 a4 a5 a6 a7 a8 a9 a10 a11 : Value} {r : List Value} {x : Int32} (hd : decode Y.2.1 pc = .ok (.iload 12, 2)) (hq : pc + 2 = q) (k : V g Y d q (a0 :: a1 :: a2 :: a3 :: a4 :: a5 :: a6 :: a7 :: a8 :: a9 :: a10 :: a11 :: .int x :: r) (.int x :: st) h Q) : V g Y d pc (a0 :: a1 :: a2 :: a3 :: a4 :: a5 :: a6 :: a7 :: a8 :: a9 :: a10 :: a11 :: .int x :: r) st h Q := by
  subst hq
  exact V.step (fun p e R s m args below meth c H locs cells slots arr Qf hC hR hS hL kk => lv_iload hC.1 hC.2.1 hd (hL.2.2 12 _ rfl (fun e => by cases e)) (kk arr hL)) k
theorem v_lld12 {a0 a1 a2 a3 a4 a5 a6 a7 a8 a9 a10 a11 : Value} {r : List Value} {x : Int64} (hd : decode Y.2.1 pc = .ok (.lload 12, 2)) (hq : pc + 2 = q) (k : V g Y d q (a0 :: a1 :: a2 :: a3 :: a4 :: a5 :: a6 :: a7 :: a8 :: a9 :: a10 :: a11 :: .long x :: r) (.long x :: st) h Q) : V g Y d pc (a0 :: a1 :: a2 :: a3 :: a4 :: a5 :: a6 :: a7 :: a8 :: a9 :: a10 :: a11 :: .long x :: r) st h Q := by
  subst hq
  exact V.step (fun p e R s m args below meth c H locs cells slots arr Qf hC hR hS hL kk => lv_lload hC.1 hC.2.1 hd (hL.2.2 12 _ rfl (fun e => by cases e)) (kk arr hL)) k
theorem v_ald12 {a0 a1 a2 a3 a4 a5 a6 a7 a8 a9 a10 a11 : Value} {r : List Value} {v : Value} (hd : decode Y.2.1 pc = .ok (.aload 12, 2)) (hq : pc + 2 = q) (hv : isRf v = true) (k : V g Y d q (a0 :: a1 :: a2 :: a3 :: a4 :: a5 :: a6 :: a7 :: a8 :: a9 :: a10 :: a11 :: v :: r) (v :: st) h Q) : V g Y d pc (a0 :: a1 :: a2 :: a3 :: a4 :: a5 :: a6 :: a7 :: a8 :: a9 :: a10 :: a11 :: v :: r) st h Q := by
  subst hq
  rcases isRf_or hv with rfl | ⟨x, rfl⟩
  · exact V.step (fun p e R s m args below meth c H locs cells slots arr Qf hC hR hS hL kk => lv_aloadN hC.1 hC.2.1 hd (hL.2.2 12 _ rfl (fun e => by cases e)) (kk arr hL)) k
  · exact V.step (fun p e R s m args below meth c H locs cells slots arr Qf hC hR hS hL kk => lv_aload hC.1 hC.2.1 hd (hL.2.2 12 _ rfl (fun e => by cases e)) (kk arr hL)) k
theorem v_ist12 {a0 a1 a2 a3 a4 a5 a6 a7 a8 a9 a10 a11 u : Value}  {r : List Value} {x : Int32} (hd : decode Y.2.1 pc = .ok (.istore 12, 2)) (hq : pc + 2 = q) (hi : 12 < Y.2.2.1) (hp : a11.category = 1) (k : V g Y d q (a0 :: a1 :: a2 :: a3 :: a4 :: a5 :: a6 :: a7 :: a8 :: a9 :: a10 :: a11 :: .int x :: r) st h Q) : V g Y d pc (a0 :: a1 :: a2 :: a3 :: a4 :: a5 :: a6 :: a7 :: a8 :: a9 :: a10 :: a11 :: u :: r) (.int x :: st) h Q := by
  subst hq
  exact V.step (fun p e R s m args below meth c H locs cells slots arr Qf hC hR hS hL kk => lv_istore hC.1 hC.2.1 hd hL.has hi rfl (fun arr' h' => kk arr' (Lok.st1 hL (fun j w e hw => by cases (show j = 11 by omega); cases hw; exact hp) h'))) k
theorem v_ast12 {a0 a1 a2 a3 a4 a5 a6 a7 a8 a9 a10 a11 u v : Value}  {r : List Value} (hd : decode Y.2.1 pc = .ok (.astore 12, 2)) (hq : pc + 2 = q) (hi : 12 < Y.2.2.1) (hp : a11.category = 1) (hv : isRf v = true) (k : V g Y d q (a0 :: a1 :: a2 :: a3 :: a4 :: a5 :: a6 :: a7 :: a8 :: a9 :: a10 :: a11 :: v :: r) st h Q) : V g Y d pc (a0 :: a1 :: a2 :: a3 :: a4 :: a5 :: a6 :: a7 :: a8 :: a9 :: a10 :: a11 :: u :: r) (v :: st) h Q := by
  subst hq
  rcases isRf_or hv with rfl | ⟨x, rfl⟩
  · exact V.step (fun p e R s m args below meth c H locs cells slots arr Qf hC hR hS hL kk => lv_astoreN hC.1 hC.2.1 hd hL.has hi rfl (fun arr' h' => kk arr' (Lok.st1 hL (fun j w e hw => by cases (show j = 11 by omega); cases hw; exact hp) h'))) k
  · exact V.step (fun p e R s m args below meth c H locs cells slots arr Qf hC hR hS hL kk => lv_astore hC.1 hC.2.1 hd hL.has hi rfl (fun arr' h' => kk arr' (Lok.st1 hL (fun j w e hw => by cases (show j = 11 by omega); cases hw; exact hp) h'))) k
theorem v_lst12 {a0 a1 a2 a3 a4 a5 a6 a7 a8 a9 a10 a11 u u2 : Value}  {r : List Value} {x : Int64} (hd : decode Y.2.1 pc = .ok (.lstore 12, 2)) (hq : pc + 2 = q) (hi : 12 + 1 < Y.2.2.1) (hp : a11.category = 1) (k : V g Y d q (a0 :: a1 :: a2 :: a3 :: a4 :: a5 :: a6 :: a7 :: a8 :: a9 :: a10 :: a11 :: .long x :: zz :: r) st h Q) : V g Y d pc (a0 :: a1 :: a2 :: a3 :: a4 :: a5 :: a6 :: a7 :: a8 :: a9 :: a10 :: a11 :: u :: u2 :: r) (.long x :: st) h Q := by
  subst hq
  exact V.step (fun p e R s m args below meth c H locs cells slots arr Qf hC hR hS hL kk => lv_lstore hC.1 hC.2.1 hd hL.has hi rfl (fun arr' h' => kk arr' (Lok.st2 hL (fun j w e hw => by cases (show j = 11 by omega); cases hw; exact hp) h'))) k
theorem v_inc12 {a0 a1 a2 a3 a4 a5 a6 a7 a8 a9 a10 a11 : Value} {r : List Value} {x v : Int32} {n : Int} (hd : decode Y.2.1 pc = .ok (.iinc 12 n, 3)) (hq : pc + 3 = q) (hi : 12 < Y.2.2.1) (hp : a11.category = 1) (hv : x + Int32.ofInt n = v) (k : V g Y d q (a0 :: a1 :: a2 :: a3 :: a4 :: a5 :: a6 :: a7 :: a8 :: a9 :: a10 :: a11 :: .int v :: r) st h Q) : V g Y d pc (a0 :: a1 :: a2 :: a3 :: a4 :: a5 :: a6 :: a7 :: a8 :: a9 :: a10 :: a11 :: .int x :: r) st h Q := by
  subst hq
  refine V.step (fun p e R s m args below meth c H locs cells slots arr Qf hC hR hS hL kk => ?_) k
  obtain ⟨j, hj⟩ := List.getElem?_of_mem (mem_lvs.mpr ⟨hi, (show (a0 :: a1 :: a2 :: a3 :: a4 :: a5 :: a6 :: a7 :: a8 :: a9 :: a10 :: a11 :: .int x :: r)[12]? = some (.int x) from rfl), fun e => by cases e⟩)
  exact lv_iinc hC.1 hC.2.1 hd hL.has hj hv hi rfl (fun arr' h' => kk arr' (Lok.st1 hL (fun j w e hw => by cases (show j = 11 by omega); cases hw; exact hp) h'))
theorem v_ild13 {a0 a1 a2 a3 a4 a5 a6 a7 a8 a9 a10 a11 a12 : Value} {r : List Value} {x : Int32} (hd : decode Y.2.1 pc = .ok (.iload 13, 2)) (hq : pc + 2 = q) (k : V g Y d q (a0 :: a1 :: a2 :: a3 :: a4 :: a5 :: a6 :: a7 :: a8 :: a9 :: a10 :: a11 :: a12 :: .int x :: r) (.int x :: st) h Q) : V g Y d pc (a0 :: a1 :: a2 :: a3 :: a4 :: a5 :: a6 :: a7 :: a8 :: a9 :: a10 :: a11 :: a12 :: .int x :: r) st h Q := by
  subst hq
  exact V.step (fun p e R s m args below meth c H locs cells slots arr Qf hC hR hS hL kk => lv_iload hC.1 hC.2.1 hd (hL.2.2 13 _ rfl (fun e => by cases e)) (kk arr hL)) k
theorem v_lld13 {a0 a1 a2 a3 a4 a5 a6 a7 a8 a9 a10 a11 a12 : Value} {r : List Value} {x : Int64} (hd : decode Y.2.1 pc = .ok (.lload 13, 2)) (hq : pc + 2 = q) (k : V g Y d q (a0 :: a1 :: a2 :: a3 :: a4 :: a5 :: a6 :: a7 :: a8 :: a9 :: a10 :: a11 :: a12 :: .long x :: r) (.long x :: st) h Q) : V g Y d pc (a0 :: a1 :: a2 :: a3 :: a4 :: a5 :: a6 :: a7 :: a8 :: a9 :: a10 :: a11 :: a12 :: .long x :: r) st h Q := by
  subst hq
  exact V.step (fun p e R s m args below meth c H locs cells slots arr Qf hC hR hS hL kk => lv_lload hC.1 hC.2.1 hd (hL.2.2 13 _ rfl (fun e => by cases e)) (kk arr hL)) k
theorem v_ald13 {a0 a1 a2 a3 a4 a5 a6 a7 a8 a9 a10 a11 a12 : Value} {r : List Value} {v : Value} (hd : decode Y.2.1 pc = .ok (.aload 13, 2)) (hq : pc + 2 = q) (hv : isRf v = true) (k : V g Y d q (a0 :: a1 :: a2 :: a3 :: a4 :: a5 :: a6 :: a7 :: a8 :: a9 :: a10 :: a11 :: a12 :: v :: r) (v :: st) h Q) : V g Y d pc (a0 :: a1 :: a2 :: a3 :: a4 :: a5 :: a6 :: a7 :: a8 :: a9 :: a10 :: a11 :: a12 :: v :: r) st h Q := by
  subst hq
  rcases isRf_or hv with rfl | ⟨x, rfl⟩
  · exact V.step (fun p e R s m args below meth c H locs cells slots arr Qf hC hR hS hL kk => lv_aloadN hC.1 hC.2.1 hd (hL.2.2 13 _ rfl (fun e => by cases e)) (kk arr hL)) k
  · exact V.step (fun p e R s m args below meth c H locs cells slots arr Qf hC hR hS hL kk => lv_aload hC.1 hC.2.1 hd (hL.2.2 13 _ rfl (fun e => by cases e)) (kk arr hL)) k
theorem v_ist13 {a0 a1 a2 a3 a4 a5 a6 a7 a8 a9 a10 a11 a12 u : Value}  {r : List Value} {x : Int32} (hd : decode Y.2.1 pc = .ok (.istore 13, 2)) (hq : pc + 2 = q) (hi : 13 < Y.2.2.1) (hp : a12.category = 1) (k : V g Y d q (a0 :: a1 :: a2 :: a3 :: a4 :: a5 :: a6 :: a7 :: a8 :: a9 :: a10 :: a11 :: a12 :: .int x :: r) st h Q) : V g Y d pc (a0 :: a1 :: a2 :: a3 :: a4 :: a5 :: a6 :: a7 :: a8 :: a9 :: a10 :: a11 :: a12 :: u :: r) (.int x :: st) h Q := by
  subst hq
  exact V.step (fun p e R s m args below meth c H locs cells slots arr Qf hC hR hS hL kk => lv_istore hC.1 hC.2.1 hd hL.has hi rfl (fun arr' h' => kk arr' (Lok.st1 hL (fun j w e hw => by cases (show j = 12 by omega); cases hw; exact hp) h'))) k
theorem v_ast13 {a0 a1 a2 a3 a4 a5 a6 a7 a8 a9 a10 a11 a12 u v : Value}  {r : List Value} (hd : decode Y.2.1 pc = .ok (.astore 13, 2)) (hq : pc + 2 = q) (hi : 13 < Y.2.2.1) (hp : a12.category = 1) (hv : isRf v = true) (k : V g Y d q (a0 :: a1 :: a2 :: a3 :: a4 :: a5 :: a6 :: a7 :: a8 :: a9 :: a10 :: a11 :: a12 :: v :: r) st h Q) : V g Y d pc (a0 :: a1 :: a2 :: a3 :: a4 :: a5 :: a6 :: a7 :: a8 :: a9 :: a10 :: a11 :: a12 :: u :: r) (v :: st) h Q := by
  subst hq
  rcases isRf_or hv with rfl | ⟨x, rfl⟩
  · exact V.step (fun p e R s m args below meth c H locs cells slots arr Qf hC hR hS hL kk => lv_astoreN hC.1 hC.2.1 hd hL.has hi rfl (fun arr' h' => kk arr' (Lok.st1 hL (fun j w e hw => by cases (show j = 12 by omega); cases hw; exact hp) h'))) k
  · exact V.step (fun p e R s m args below meth c H locs cells slots arr Qf hC hR hS hL kk => lv_astore hC.1 hC.2.1 hd hL.has hi rfl (fun arr' h' => kk arr' (Lok.st1 hL (fun j w e hw => by cases (show j = 12 by omega); cases hw; exact hp) h'))) k
theorem v_lst13 {a0 a1 a2 a3 a4 a5 a6 a7 a8 a9 a10 a11 a12 u u2 : Value}  {r : List Value} {x : Int64} (hd : decode Y.2.1 pc = .ok (.lstore 13, 2)) (hq : pc + 2 = q) (hi : 13 + 1 < Y.2.2.1) (hp : a12.category = 1) (k : V g Y d q (a0 :: a1 :: a2 :: a3 :: a4 :: a5 :: a6 :: a7 :: a8 :: a9 :: a10 :: a11 :: a12 :: .long x :: zz :: r) st h Q) : V g Y d pc (a0 :: a1 :: a2 :: a3 :: a4 :: a5 :: a6 :: a7 :: a8 :: a9 :: a10 :: a11 :: a12 :: u :: u2 :: r) (.long x :: st) h Q := by
  subst hq
  exact V.step (fun p e R s m args below meth c H locs cells slots arr Qf hC hR hS hL kk => lv_lstore hC.1 hC.2.1 hd hL.has hi rfl (fun arr' h' => kk arr' (Lok.st2 hL (fun j w e hw => by cases (show j = 12 by omega); cases hw; exact hp) h'))) k
theorem v_inc13 {a0 a1 a2 a3 a4 a5 a6 a7 a8 a9 a10 a11 a12 : Value} {r : List Value} {x v : Int32} {n : Int} (hd : decode Y.2.1 pc = .ok (.iinc 13 n, 3)) (hq : pc + 3 = q) (hi : 13 < Y.2.2.1) (hp : a12.category = 1) (hv : x + Int32.ofInt n = v) (k : V g Y d q (a0 :: a1 :: a2 :: a3 :: a4 :: a5 :: a6 :: a7 :: a8 :: a9 :: a10 :: a11 :: a12 :: .int v :: r) st h Q) : V g Y d pc (a0 :: a1 :: a2 :: a3 :: a4 :: a5 :: a6 :: a7 :: a8 :: a9 :: a10 :: a11 :: a12 :: .int x :: r) st h Q := by
  subst hq
  refine V.step (fun p e R s m args below meth c H locs cells slots arr Qf hC hR hS hL kk => ?_) k
  obtain ⟨j, hj⟩ := List.getElem?_of_mem (mem_lvs.mpr ⟨hi, (show (a0 :: a1 :: a2 :: a3 :: a4 :: a5 :: a6 :: a7 :: a8 :: a9 :: a10 :: a11 :: a12 :: .int x :: r)[13]? = some (.int x) from rfl), fun e => by cases e⟩)
  exact lv_iinc hC.1 hC.2.1 hd hL.has hj hv hi rfl (fun arr' h' => kk arr' (Lok.st1 hL (fun j w e hw => by cases (show j = 12 by omega); cases hw; exact hp) h'))
theorem v_ild14 {a0 a1 a2 a3 a4 a5 a6 a7 a8 a9 a10 a11 a12 a13 : Value} {r : List Value} {x : Int32} (hd : decode Y.2.1 pc = .ok (.iload 14, 2)) (hq : pc + 2 = q) (k : V g Y d q (a0 :: a1 :: a2 :: a3 :: a4 :: a5 :: a6 :: a7 :: a8 :: a9 :: a10 :: a11 :: a12 :: a13 :: .int x :: r) (.int x :: st) h Q) : V g Y d pc (a0 :: a1 :: a2 :: a3 :: a4 :: a5 :: a6 :: a7 :: a8 :: a9 :: a10 :: a11 :: a12 :: a13 :: .int x :: r) st h Q := by
  subst hq
  exact V.step (fun p e R s m args below meth c H locs cells slots arr Qf hC hR hS hL kk => lv_iload hC.1 hC.2.1 hd (hL.2.2 14 _ rfl (fun e => by cases e)) (kk arr hL)) k
theorem v_lld14 {a0 a1 a2 a3 a4 a5 a6 a7 a8 a9 a10 a11 a12 a13 : Value} {r : List Value} {x : Int64} (hd : decode Y.2.1 pc = .ok (.lload 14, 2)) (hq : pc + 2 = q) (k : V g Y d q (a0 :: a1 :: a2 :: a3 :: a4 :: a5 :: a6 :: a7 :: a8 :: a9 :: a10 :: a11 :: a12 :: a13 :: .long x :: r) (.long x :: st) h Q) : V g Y d pc (a0 :: a1 :: a2 :: a3 :: a4 :: a5 :: a6 :: a7 :: a8 :: a9 :: a10 :: a11 :: a12 :: a13 :: .long x :: r) st h Q := by
  subst hq
  exact V.step (fun p e R s m args below meth c H locs cells slots arr Qf hC hR hS hL kk => lv_lload hC.1 hC.2.1 hd (hL.2.2 14 _ rfl (fun e => by cases e)) (kk arr hL)) k
theorem v_ald14 {a0 a1 a2 a3 a4 a5 a6 a7 a8 a9 a10 a11 a12 a13 : Value} {r : List Value} {v : Value} (hd : decode Y.2.1 pc = .ok (.aload 14, 2)) (hq : pc + 2 = q) (hv : isRf v = true) (k : V g Y d q (a0 :: a1 :: a2 :: a3 :: a4 :: a5 :: a6 :: a7 :: a8 :: a9 :: a10 :: a11 :: a12 :: a13 :: v :: r) (v :: st) h Q) : V g Y d pc (a0 :: a1 :: a2 :: a3 :: a4 :: a5 :: a6 :: a7 :: a8 :: a9 :: a10 :: a11 :: a12 :: a13 :: v :: r) st h Q := by
  subst hq
  rcases isRf_or hv with rfl | ⟨x, rfl⟩
  · exact V.step (fun p e R s m args below meth c H locs cells slots arr Qf hC hR hS hL kk => lv_aloadN hC.1 hC.2.1 hd (hL.2.2 14 _ rfl (fun e => by cases e)) (kk arr hL)) k
  · exact V.step (fun p e R s m args below meth c H locs cells slots arr Qf hC hR hS hL kk => lv_aload hC.1 hC.2.1 hd (hL.2.2 14 _ rfl (fun e => by cases e)) (kk arr hL)) k
theorem v_ist14 {a0 a1 a2 a3 a4 a5 a6 a7 a8 a9 a10 a11 a12 a13 u : Value}  {r : List Value} {x : Int32} (hd : decode Y.2.1 pc = .ok (.istore 14, 2)) (hq : pc + 2 = q) (hi : 14 < Y.2.2.1) (hp : a13.category = 1) (k : V g Y d q (a0 :: a1 :: a2 :: a3 :: a4 :: a5 :: a6 :: a7 :: a8 :: a9 :: a10 :: a11 :: a12 :: a13 :: .int x :: r) st h Q) : V g Y d pc (a0 :: a1 :: a2 :: a3 :: a4 :: a5 :: a6 :: a7 :: a8 :: a9 :: a10 :: a11 :: a12 :: a13 :: u :: r) (.int x :: st) h Q := by
  subst hq
  exact V.step (fun p e R s m args below meth c H locs cells slots arr Qf hC hR hS hL kk => lv_istore hC.1 hC.2.1 hd hL.has hi rfl (fun arr' h' => kk arr' (Lok.st1 hL (fun j w e hw => by cases (show j = 13 by omega); cases hw; exact hp) h'))) k
theorem v_ast14 {a0 a1 a2 a3 a4 a5 a6 a7 a8 a9 a10 a11 a12 a13 u v : Value}  {r : List Value} (hd : decode Y.2.1 pc = .ok (.astore 14, 2)) (hq : pc + 2 = q) (hi : 14 < Y.2.2.1) (hp : a13.category = 1) (hv : isRf v = true) (k : V g Y d q (a0 :: a1 :: a2 :: a3 :: a4 :: a5 :: a6 :: a7 :: a8 :: a9 :: a10 :: a11 :: a12 :: a13 :: v :: r) st h Q) : V g Y d pc (a0 :: a1 :: a2 :: a3 :: a4 :: a5 :: a6 :: a7 :: a8 :: a9 :: a10 :: a11 :: a12 :: a13 :: u :: r) (v :: st) h Q := by
  subst hq
  rcases isRf_or hv with rfl | ⟨x, rfl⟩
  · exact V.step (fun p e R s m args below meth c H locs cells slots arr Qf hC hR hS hL kk => lv_astoreN hC.1 hC.2.1 hd hL.has hi rfl (fun arr' h' => kk arr' (Lok.st1 hL (fun j w e hw => by cases (show j = 13 by omega); cases hw; exact hp) h'))) k
  · exact V.step (fun p e R s m args below meth c H locs cells slots arr Qf hC hR hS hL kk => lv_astore hC.1 hC.2.1 hd hL.has hi rfl (fun arr' h' => kk arr' (Lok.st1 hL (fun j w e hw => by cases (show j = 13 by omega); cases hw; exact hp) h'))) k
theorem v_lst14 {a0 a1 a2 a3 a4 a5 a6 a7 a8 a9 a10 a11 a12 a13 u u2 : Value}  {r : List Value} {x : Int64} (hd : decode Y.2.1 pc = .ok (.lstore 14, 2)) (hq : pc + 2 = q) (hi : 14 + 1 < Y.2.2.1) (hp : a13.category = 1) (k : V g Y d q (a0 :: a1 :: a2 :: a3 :: a4 :: a5 :: a6 :: a7 :: a8 :: a9 :: a10 :: a11 :: a12 :: a13 :: .long x :: zz :: r) st h Q) : V g Y d pc (a0 :: a1 :: a2 :: a3 :: a4 :: a5 :: a6 :: a7 :: a8 :: a9 :: a10 :: a11 :: a12 :: a13 :: u :: u2 :: r) (.long x :: st) h Q := by
  subst hq
  exact V.step (fun p e R s m args below meth c H locs cells slots arr Qf hC hR hS hL kk => lv_lstore hC.1 hC.2.1 hd hL.has hi rfl (fun arr' h' => kk arr' (Lok.st2 hL (fun j w e hw => by cases (show j = 13 by omega); cases hw; exact hp) h'))) k
theorem v_inc14 {a0 a1 a2 a3 a4 a5 a6 a7 a8 a9 a10 a11 a12 a13 : Value} {r : List Value} {x v : Int32} {n : Int} (hd : decode Y.2.1 pc = .ok (.iinc 14 n, 3)) (hq : pc + 3 = q) (hi : 14 < Y.2.2.1) (hp : a13.category = 1) (hv : x + Int32.ofInt n = v) (k : V g Y d q (a0 :: a1 :: a2 :: a3 :: a4 :: a5 :: a6 :: a7 :: a8 :: a9 :: a10 :: a11 :: a12 :: a13 :: .int v :: r) st h Q) : V g Y d pc (a0 :: a1 :: a2 :: a3 :: a4 :: a5 :: a6 :: a7 :: a8 :: a9 :: a10 :: a11 :: a12 :: a13 :: .int x :: r) st h Q := by
  subst hq
  refine V.step (fun p e R s m args below meth c H locs cells slots arr Qf hC hR hS hL kk => ?_) k
  obtain ⟨j, hj⟩ := List.getElem?_of_mem (mem_lvs.mpr ⟨hi, (show (a0 :: a1 :: a2 :: a3 :: a4 :: a5 :: a6 :: a7 :: a8 :: a9 :: a10 :: a11 :: a12 :: a13 :: .int x :: r)[14]? = some (.int x) from rfl), fun e => by cases e⟩)
  exact lv_iinc hC.1 hC.2.1 hd hL.has hj hv hi rfl (fun arr' h' => kk arr' (Lok.st1 hL (fun j w e hw => by cases (show j = 13 by omega); cases hw; exact hp) h'))
theorem v_ild15 {a0 a1 a2 a3 a4 a5 a6 a7 a8 a9 a10 a11 a12 a13 a14 : Value} {r : List Value} {x : Int32} (hd : decode Y.2.1 pc = .ok (.iload 15, 2)) (hq : pc + 2 = q) (k : V g Y d q (a0 :: a1 :: a2 :: a3 :: a4 :: a5 :: a6 :: a7 :: a8 :: a9 :: a10 :: a11 :: a12 :: a13 :: a14 :: .int x :: r) (.int x :: st) h Q) : V g Y d pc (a0 :: a1 :: a2 :: a3 :: a4 :: a5 :: a6 :: a7 :: a8 :: a9 :: a10 :: a11 :: a12 :: a13 :: a14 :: .int x :: r) st h Q := by
  subst hq
  exact V.step (fun p e R s m args below meth c H locs cells slots arr Qf hC hR hS hL kk => lv_iload hC.1 hC.2.1 hd (hL.2.2 15 _ rfl (fun e => by cases e)) (kk arr hL)) k
theorem v_lld15 {a0 a1 a2 a3 a4 a5 a6 a7 a8 a9 a10 a11 a12 a13 a14 : Value} {r : List Value} {x : Int64} (hd : decode Y.2.1 pc = .ok (.lload 15, 2)) (hq : pc + 2 = q) (k : V g Y d q (a0 :: a1 :: a2 :: a3 :: a4 :: a5 :: a6 :: a7 :: a8 :: a9 :: a10 :: a11 :: a12 :: a13 :: a14 :: .long x :: r) (.long x :: st) h Q) : V g Y d pc (a0 :: a1 :: a2 :: a3 :: a4 :: a5 :: a6 :: a7 :: a8 :: a9 :: a10 :: a11 :: a12 :: a13 :: a14 :: .long x :: r) st h Q := by
  subst hq
  exact V.step (fun p e R s m args below meth c H locs cells slots arr Qf hC hR hS hL kk => lv_lload hC.1 hC.2.1 hd (hL.2.2 15 _ rfl (fun e => by cases e)) (kk arr hL)) k
theorem v_ald15 {a0 a1 a2 a3 a4 a5 a6 a7 a8 a9 a10 a11 a12 a13 a14 : Value} {r : List Value} {v : Value} (hd : decode Y.2.1 pc = .ok (.aload 15, 2)) (hq : pc + 2 = q) (hv : isRf v = true) (k : V g Y d q (a0 :: a1 :: a2 :: a3 :: a4 :: a5 :: a6 :: a7 :: a8 :: a9 :: a10 :: a11 :: a12 :: a13 :: a14 :: v :: r) (v :: st) h Q) : V g Y d pc (a0 :: a1 :: a2 :: a3 :: a4 :: a5 :: a6 :: a7 :: a8 :: a9 :: a10 :: a11 :: a12 :: a13 :: a14 :: v :: r) st h Q := by
  subst hq
  rcases isRf_or hv with rfl | ⟨x, rfl⟩
  · exact V.step (fun p e R s m args below meth c H locs cells slots arr Qf hC hR hS hL kk => lv_aloadN hC.1 hC.2.1 hd (hL.2.2 15 _ rfl (fun e => by cases e)) (kk arr hL)) k
  · exact V.step (fun p e R s m args below meth c H locs cells slots arr Qf hC hR hS hL kk => lv_aload hC.1 hC.2.1 hd (hL.2.2 15 _ rfl (fun e => by cases e)) (kk arr hL)) k
theorem v_ist15 {a0 a1 a2 a3 a4 a5 a6 a7 a8 a9 a10 a11 a12 a13 a14 u : Value}  {r : List Value} {x : Int32} (hd : decode Y.2.1 pc = .ok (.istore 15, 2)) (hq : pc + 2 = q) (hi : 15 < Y.2.2.1) (hp : a14.category = 1) (k : V g Y d q (a0 :: a1 :: a2 :: a3 :: a4 :: a5 :: a6 :: a7 :: a8 :: a9 :: a10 :: a11 :: a12 :: a13 :: a14 :: .int x :: r) st h Q) : V g Y d pc (a0 :: a1 :: a2 :: a3 :: a4 :: a5 :: a6 :: a7 :: a8 :: a9 :: a10 :: a11 :: a12 :: a13 :: a14 :: u :: r) (.int x :: st) h Q := by
  subst hq
  exact V.step (fun p e R s m args below meth c H locs cells slots arr Qf hC hR hS hL kk => lv_istore hC.1 hC.2.1 hd hL.has hi rfl (fun arr' h' => kk arr' (Lok.st1 hL (fun j w e hw => by cases (show j = 14 by omega); cases hw; exact hp) h'))) k
theorem v_ast15 {a0 a1 a2 a3 a4 a5 a6 a7 a8 a9 a10 a11 a12 a13 a14 u v : Value}  {r : List Value} (hd : decode Y.2.1 pc = .ok (.astore 15, 2)) (hq : pc + 2 = q) (hi : 15 < Y.2.2.1) (hp : a14.category = 1) (hv : isRf v = true) (k : V g Y d q (a0 :: a1 :: a2 :: a3 :: a4 :: a5 :: a6 :: a7 :: a8 :: a9 :: a10 :: a11 :: a12 :: a13 :: a14 :: v :: r) st h Q) : V g Y d pc (a0 :: a1 :: a2 :: a3 :: a4 :: a5 :: a6 :: a7 :: a8 :: a9 :: a10 :: a11 :: a12 :: a13 :: a14 :: u :: r) (v :: st) h Q := by
  subst hq
  rcases isRf_or hv with rfl | ⟨x, rfl⟩
  · exact V.step (fun p e R s m args below meth c H locs cells slots arr Qf hC hR hS hL kk => lv_astoreN hC.1 hC.2.1 hd hL.has hi rfl (fun arr' h' => kk arr' (Lok.st1 hL (fun j w e hw => by cases (show j = 14 by omega); cases hw; exact hp) h'))) k
  · exact V.step (fun p e R s m args below meth c H locs cells slots arr Qf hC hR hS hL kk => lv_astore hC.1 hC.2.1 hd hL.has hi rfl (fun arr' h' => kk arr' (Lok.st1 hL (fun j w e hw => by cases (show j = 14 by omega); cases hw; exact hp) h'))) k
theorem v_lst15 {a0 a1 a2 a3 a4 a5 a6 a7 a8 a9 a10 a11 a12 a13 a14 u u2 : Value}  {r : List Value} {x : Int64} (hd : decode Y.2.1 pc = .ok (.lstore 15, 2)) (hq : pc + 2 = q) (hi : 15 + 1 < Y.2.2.1) (hp : a14.category = 1) (k : V g Y d q (a0 :: a1 :: a2 :: a3 :: a4 :: a5 :: a6 :: a7 :: a8 :: a9 :: a10 :: a11 :: a12 :: a13 :: a14 :: .long x :: zz :: r) st h Q) : V g Y d pc (a0 :: a1 :: a2 :: a3 :: a4 :: a5 :: a6 :: a7 :: a8 :: a9 :: a10 :: a11 :: a12 :: a13 :: a14 :: u :: u2 :: r) (.long x :: st) h Q := by
  subst hq
  exact V.step (fun p e R s m args below meth c H locs cells slots arr Qf hC hR hS hL kk => lv_lstore hC.1 hC.2.1 hd hL.has hi rfl (fun arr' h' => kk arr' (Lok.st2 hL (fun j w e hw => by cases (show j = 14 by omega); cases hw; exact hp) h'))) k
theorem v_inc15 {a0 a1 a2 a3 a4 a5 a6 a7 a8 a9 a10 a11 a12 a13 a14 : Value} {r : List Value} {x v : Int32} {n : Int} (hd : decode Y.2.1 pc = .ok (.iinc 15 n, 3)) (hq : pc + 3 = q) (hi : 15 < Y.2.2.1) (hp : a14.category = 1) (hv : x + Int32.ofInt n = v) (k : V g Y d q (a0 :: a1 :: a2 :: a3 :: a4 :: a5 :: a6 :: a7 :: a8 :: a9 :: a10 :: a11 :: a12 :: a13 :: a14 :: .int v :: r) st h Q) : V g Y d pc (a0 :: a1 :: a2 :: a3 :: a4 :: a5 :: a6 :: a7 :: a8 :: a9 :: a10 :: a11 :: a12 :: a13 :: a14 :: .int x :: r) st h Q := by
  subst hq
  refine V.step (fun p e R s m args below meth c H locs cells slots arr Qf hC hR hS hL kk => ?_) k
  obtain ⟨j, hj⟩ := List.getElem?_of_mem (mem_lvs.mpr ⟨hi, (show (a0 :: a1 :: a2 :: a3 :: a4 :: a5 :: a6 :: a7 :: a8 :: a9 :: a10 :: a11 :: a12 :: a13 :: a14 :: .int x :: r)[15]? = some (.int x) from rfl), fun e => by cases e⟩)
  exact lv_iinc hC.1 hC.2.1 hd hL.has hj hv hi rfl (fun arr' h' => kk arr' (Lok.st1 hL (fun j w e hw => by cases (show j = 14 by omega); cases hw; exact hp) h'))
theorem v_ild16 {a0 a1 a2 a3 a4 a5 a6 a7 a8 a9 a10 a11 a12 a13 a14 a15 : Value} {r : List Value} {x : Int32} (hd : decode Y.2.1 pc = .ok (.iload 16, 2)) (hq : pc + 2 = q) (k : V g Y d q (a0 :: a1 :: a2 :: a3 :: a4 :: a5 :: a6 :: a7 :: a8 :: a9 :: a10 :: a11 :: a12 :: a13 :: a14 :: a15 :: .int x :: r) (.int x :: st) h Q) : V g Y d pc (a0 :: a1 :: a2 :: a3 :: a4 :: a5 :: a6 :: a7 :: a8 :: a9 :: a10 :: a11 :: a12 :: a13 :: a14 :: a15 :: .int x :: r) st h Q := by
  subst hq
  exact V.step (fun p e R s m args below meth c H locs cells slots arr Qf hC hR hS hL kk => lv_iload hC.1 hC.2.1 hd (hL.2.2 16 _ rfl (fun e => by cases e)) (kk arr hL)) k
theorem v_lld16 {a0 a1 a2 a3 a4 a5 a6 a7 a8 a9 a10 a11 a12 a13 a14 a15 : Value} {r : List Value} {x : Int64} (hd : decode Y.2.1 pc = .ok (.lload 16, 2)) (hq : pc + 2 = q) (k : V g Y d q (a0 :: a1 :: a2 :: a3 :: a4 :: a5 :: a6 :: a7 :: a8 :: a9 :: a10 :: a11 :: a12 :: a13 :: a14 :: a15 :: .long x :: r) (.long x :: st) h Q) : V g Y d pc (a0 :: a1 :: a2 :: a3 :: a4 :: a5 :: a6 :: a7 :: a8 :: a9 :: a10 :: a11 :: a12 :: a13 :: a14 :: a15 :: .long x :: r) st h Q := by
  subst hq
  exact V.step (fun p e R s m args below meth c H locs cells slots arr Qf hC hR hS hL kk => lv_lload hC.1 hC.2.1 hd (hL.2.2 16 _ rfl (fun e => by cases e)) (kk arr hL)) k
theorem v_ald16 {a0 a1 a2 a3 a4 a5 a6 a7 a8 a9 a10 a11 a12 a13 a14 a15 : Value} {r : List Value} {v : Value} (hd : decode Y.2.1 pc = .ok (.aload 16, 2)) (hq : pc + 2 = q) (hv : isRf v = true) (k : V g Y d q (a0 :: a1 :: a2 :: a3 :: a4 :: a5 :: a6 :: a7 :: a8 :: a9 :: a10 :: a11 :: a12 :: a13 :: a14 :: a15 :: v :: r) (v :: st) h Q) : V g Y d pc (a0 :: a1 :: a2 :: a3 :: a4 :: a5 :: a6 :: a7 :: a8 :: a9 :: a10 :: a11 :: a12 :: a13 :: a14 :: a15 :: v :: r) st h Q := by
  subst hq
  rcases isRf_or hv with rfl | ⟨x, rfl⟩
  · exact V.step (fun p e R s m args below meth c H locs cells slots arr Qf hC hR hS hL kk => lv_aloadN hC.1 hC.2.1 hd (hL.2.2 16 _ rfl (fun e => by cases e)) (kk arr hL)) k
  · exact V.step (fun p e R s m args below meth c H locs cells slots arr Qf hC hR hS hL kk => lv_aload hC.1 hC.2.1 hd (hL.2.2 16 _ rfl (fun e => by cases e)) (kk arr hL)) k
theorem v_ist16 {a0 a1 a2 a3 a4 a5 a6 a7 a8 a9 a10 a11 a12 a13 a14 a15 u : Value}  {r : List Value} {x : Int32} (hd : decode Y.2.1 pc = .ok (.istore 16, 2)) (hq : pc + 2 = q) (hi : 16 < Y.2.2.1) (hp : a15.category = 1) (k : V g Y d q (a0 :: a1 :: a2 :: a3 :: a4 :: a5 :: a6 :: a7 :: a8 :: a9 :: a10 :: a11 :: a12 :: a13 :: a14 :: a15 :: .int x :: r) st h Q) : V g Y d pc (a0 :: a1 :: a2 :: a3 :: a4 :: a5 :: a6 :: a7 :: a8 :: a9 :: a10 :: a11 :: a12 :: a13 :: a14 :: a15 :: u :: r) (.int x :: st) h Q := by
  subst hq
  exact V.step (fun p e R s m args below meth c H locs cells slots arr Qf hC hR hS hL kk => lv_istore hC.1 hC.2.1 hd hL.has hi rfl (fun arr' h' => kk arr' (Lok.st1 hL (fun j w e hw => by cases (show j = 15 by omega); cases hw; exact hp) h'))) k
theorem v_ast16 {a0 a1 a2 a3 a4 a5 a6 a7 a8 a9 a10 a11 a12 a13 a14 a15 u v : Value}  {r : List Value} (hd : decode Y.2.1 pc = .ok (.astore 16, 2)) (hq : pc + 2 = q) (hi : 16 < Y.2.2.1) (hp : a15.category = 1) (hv : isRf v = true) (k : V g Y d q (a0 :: a1 :: a2 :: a3 :: a4 :: a5 :: a6 :: a7 :: a8 :: a9 :: a10 :: a11 :: a12 :: a13 :: a14 :: a15 :: v :: r) st h Q) : V g Y d pc (a0 :: a1 :: a2 :: a3 :: a4 :: a5 :: a6 :: a7 :: a8 :: a9 :: a10 :: a11 :: a12 :: a13 :: a14 :: a15 :: u :: r) (v :: st) h Q := by
  subst hq
  rcases isRf_or hv with rfl | ⟨x, rfl⟩
  · exact V.step (fun p e R s m args below meth c H locs cells slots arr Qf hC hR hS hL kk => lv_astoreN hC.1 hC.2.1 hd hL.has hi rfl (fun arr' h' => kk arr' (Lok.st1 hL (fun j w e hw => by cases (show j = 15 by omega); cases hw; exact hp) h'))) k
  · exact V.step (fun p e R s m args below meth c H locs cells slots arr Qf hC hR hS hL kk => lv_astore hC.1 hC.2.1 hd hL.has hi rfl (fun arr' h' => kk arr' (Lok.st1 hL (fun j w e hw => by cases (show j = 15 by omega); cases hw; exact hp) h'))) k
theorem v_lst16 {a0 a1 a2 a3 a4 a5 a6 a7 a8 a9 a10 a11 a12 a13 a14 a15 u u2 : Value}  {r : List Value} {x : Int64} (hd : decode Y.2.1 pc = .ok (.lstore 16, 2)) (hq : pc + 2 = q) (hi : 16 + 1 < Y.2.2.1) (hp : a15.category = 1) (k : V g Y d q (a0 :: a1 :: a2 :: a3 :: a4 :: a5 :: a6 :: a7 :: a8 :: a9 :: a10 :: a11 :: a12 :: a13 :: a14 :: a15 :: .long x :: zz :: r) st h Q) : V g Y d pc (a0 :: a1 :: a2 :: a3 :: a4 :: a5 :: a6 :: a7 :: a8 :: a9 :: a10 :: a11 :: a12 :: a13 :: a14 :: a15 :: u :: u2 :: r) (.long x :: st) h Q := by
  subst hq
  exact V.step (fun p e R s m args below meth c H locs cells slots arr Qf hC hR hS hL kk => lv_lstore hC.1 hC.2.1 hd hL.has hi rfl (fun arr' h' => kk arr' (Lok.st2 hL (fun j w e hw => by cases (show j = 15 by omega); cases hw; exact hp) h'))) k
theorem v_inc16 {a0 a1 a2 a3 a4 a5 a6 a7 a8 a9 a10 a11 a12 a13 a14 a15 : Value} {r : List Value} {x v : Int32} {n : Int} (hd : decode Y.2.1 pc = .ok (.iinc 16 n, 3)) (hq : pc + 3 = q) (hi : 16 < Y.2.2.1) (hp : a15.category = 1) (hv : x + Int32.ofInt n = v) (k : V g Y d q (a0 :: a1 :: a2 :: a3 :: a4 :: a5 :: a6 :: a7 :: a8 :: a9 :: a10 :: a11 :: a12 :: a13 :: a14 :: a15 :: .int v :: r) st h Q) : V g Y d pc (a0 :: a1 :: a2 :: a3 :: a4 :: a5 :: a6 :: a7 :: a8 :: a9 :: a10 :: a11 :: a12 :: a13 :: a14 :: a15 :: .int x :: r) st h Q := by
  subst hq
  refine V.step (fun p e R s m args below meth c H locs cells slots arr Qf hC hR hS hL kk => ?_) k
  obtain ⟨j, hj⟩ := List.getElem?_of_mem (mem_lvs.mpr ⟨hi, (show (a0 :: a1 :: a2 :: a3 :: a4 :: a5 :: a6 :: a7 :: a8 :: a9 :: a10 :: a11 :: a12 :: a13 :: a14 :: a15 :: .int x :: r)[16]? = some (.int x) from rfl), fun e => by cases e⟩)
  exact lv_iinc hC.1 hC.2.1 hd hL.has hj hv hi rfl (fun arr' h' => kk arr' (Lok.st1 hL (fun j w e hw => by cases (show j = 15 by omega); cases hw; exact hp) h'))
theorem v_ild17 {a0 a1 a2 a3 a4 a5 a6 a7 a8 a9 a10 a11 a12 a13 a14 a15 a16 : Value} {r : List Value} {x : Int32} (hd : decode Y.2.1 pc = .ok (.iload 17, 2)) (hq : pc + 2 = q) (k : V g Y d q (a0 :: a1 :: a2 :: a3 :: a4 :: a5 :: a6 :: a7 :: a8 :: a9 :: a10 :: a11 :: a12 :: a13 :: a14 :: a15 :: a16 :: .int x :: r) (.int x :: st) h Q) : V g Y d pc (a0 :: a1 :: a2 :: a3 :: a4 :: a5 :: a6 :: a7 :: a8 :: a9 :: a10 :: a11 :: a12 :: a13 :: a14 :: a15 :: a16 :: .int x :: r) st h Q := by
  subst hq
  exact V.step (fun p e R s m args below meth c H locs cells slots arr Qf hC hR hS hL kk => lv_iload hC.1 hC.2.1 hd (hL.2.2 17 _ rfl (fun e => by cases e)) (kk arr hL)) k
theorem v_lld17 {a0 a1 a2 a3 a4 a5 a6 a7 a8 a9 a10 a11 a12 a13 a14 a15 a16 : Value} {r : List Value} {x : Int64} (hd : decode Y.2.1 pc = .ok (.lload 17, 2)) (hq : pc + 2 = q) (k : V g Y d q (a0 :: a1 :: a2 :: a3 :: a4 :: a5 :: a6 :: a7 :: a8 :: a9 :: a10 :: a11 :: a12 :: a13 :: a14 :: a15 :: a16 :: .long x :: r) (.long x :: st) h Q) : V g Y d pc (a0 :: a1 :: a2 :: a3 :: a4 :: a5 :: a6 :: a7 :: a8 :: a9 :: a10 :: a11 :: a12 :: a13 :: a14 :: a15 :: a16 :: .long x :: r) st h Q := by
  subst hq
  exact V.step (fun p e R s m args below meth c H locs cells slots arr Qf hC hR hS hL kk => lv_lload hC.1 hC.2.1 hd (hL.2.2 17 _ rfl (fun e => by cases e)) (kk arr hL)) k
theorem v_ald17 {a0 a1 a2 a3 a4 a5 a6 a7 a8 a9 a10 a11 a12 a13 a14 a15 a16 : Value} {r : List Value} {v : Value} (hd : decode Y.2.1 pc = .ok (.aload 17, 2)) (hq : pc + 2 = q) (hv : isRf v = true) (k : V g Y d q (a0 :: a1 :: a2 :: a3 :: a4 :: a5 :: a6 :: a7 :: a8 :: a9 :: a10 :: a11 :: a12 :: a13 :: a14 :: a15 :: a16 :: v :: r) (v :: st) h Q) : V g Y d pc (a0 :: a1 :: a2 :: a3 :: a4 :: a5 :: a6 :: a7 :: a8 :: a9 :: a10 :: a11 :: a12 :: a13 :: a14 :: a15 :: a16 :: v :: r) st h Q := by
  subst hq
  rcases isRf_or hv with rfl | ⟨x, rfl⟩
  · exact V.step (fun p e R s m args below meth c H locs cells slots arr Qf hC hR hS hL kk => lv_aloadN hC.1 hC.2.1 hd (hL.2.2 17 _ rfl (fun e => by cases e)) (kk arr hL)) k
  · exact V.step (fun p e R s m args below meth c H locs cells slots arr Qf hC hR hS hL kk => lv_aload hC.1 hC.2.1 hd (hL.2.2 17 _ rfl (fun e => by cases e)) (kk arr hL)) k
theorem v_ist17 {a0 a1 a2 a3 a4 a5 a6 a7 a8 a9 a10 a11 a12 a13 a14 a15 a16 u : Value}  {r : List Value} {x : Int32} (hd : decode Y.2.1 pc = .ok (.istore 17, 2)) (hq : pc + 2 = q) (hi : 17 < Y.2.2.1) (hp : a16.category = 1) (k : V g Y d q (a0 :: a1 :: a2 :: a3 :: a4 :: a5 :: a6 :: a7 :: a8 :: a9 :: a10 :: a11 :: a12 :: a13 :: a14 :: a15 :: a16 :: .int x :: r) st h Q) : V g Y d pc (a0 :: a1 :: a2 :: a3 :: a4 :: a5 :: a6 :: a7 :: a8 :: a9 :: a10 :: a11 :: a12 :: a13 :: a14 :: a15 :: a16 :: u :: r) (.int x :: st) h Q := by
  subst hq
  exact V.step (fun p e R s m args below meth c H locs cells slots arr Qf hC hR hS hL kk => lv_istore hC.1 hC.2.1 hd hL.has hi rfl (fun arr' h' => kk arr' (Lok.st1 hL (fun j w e hw => by cases (show j = 16 by omega); cases hw; exact hp) h'))) k
theorem v_ast17 {a0 a1 a2 a3 a4 a5 a6 a7 a8 a9 a10 a11 a12 a13 a14 a15 a16 u v : Value}  {r : List Value} (hd : decode Y.2.1 pc = .ok (.astore 17, 2)) (hq : pc + 2 = q) (hi : 17 < Y.2.2.1) (hp : a16.category = 1) (hv : isRf v = true) (k : V g Y d q (a0 :: a1 :: a2 :: a3 :: a4 :: a5 :: a6 :: a7 :: a8 :: a9 :: a10 :: a11 :: a12 :: a13 :: a14 :: a15 :: a16 :: v :: r) st h Q) : V g Y d pc (a0 :: a1 :: a2 :: a3 :: a4 :: a5 :: a6 :: a7 :: a8 :: a9 :: a10 :: a11 :: a12 :: a13 :: a14 :: a15 :: a16 :: u :: r) (v :: st) h Q := by
  subst hq
  rcases isRf_or hv with rfl | ⟨x, rfl⟩
  · exact V.step (fun p e R s m args below meth c H locs cells slots arr Qf hC hR hS hL kk => lv_astoreN hC.1 hC.2.1 hd hL.has hi rfl (fun arr' h' => kk arr' (Lok.st1 hL (fun j w e hw => by cases (show j = 16 by omega); cases hw; exact hp) h'))) k
  · exact V.step (fun p e R s m args below meth c H locs cells slots arr Qf hC hR hS hL kk => lv_astore hC.1 hC.2.1 hd hL.has hi rfl (fun arr' h' => kk arr' (Lok.st1 hL (fun j w e hw => by cases (show j = 16 by omega); cases hw; exact hp) h'))) k
theorem v_lst17 {a0 a1 a2 a3 a4 a5 a6 a7 a8 a9 a10 a11 a12 a13 a14 a15 a16 u u2 : Value}  {r : List Value} {x : Int64} (hd : decode Y.2.1 pc = .ok (.lstore 17, 2)) (hq : pc + 2 = q) (hi : 17 + 1 < Y.2.2.1) (hp : a16.category = 1) (k : V g Y d q (a0 :: a1 :: a2 :: a3 :: a4 :: a5 :: a6 :: a7 :: a8 :: a9 :: a10 :: a11 :: a12 :: a13 :: a14 :: a15 :: a16 :: .long x :: zz :: r) st h Q) : V g Y d pc (a0 :: a1 :: a2 :: a3 :: a4 :: a5 :: a6 :: a7 :: a8 :: a9 :: a10 :: a11 :: a12 :: a13 :: a14 :: a15 :: a16 :: u :: u2 :: r) (.long x :: st) h Q := by
  subst hq
  exact V.step (fun p e R s m args below meth c H locs cells slots arr Qf hC hR hS hL kk => lv_lstore hC.1 hC.2.1 hd hL.has hi rfl (fun arr' h' => kk arr' (Lok.st2 hL (fun j w e hw => by cases (show j = 16 by omega); cases hw; exact hp) h'))) k
theorem v_inc17 {a0 a1 a2 a3 a4 a5 a6 a7 a8 a9 a10 a11 a12 a13 a14 a15 a16 : Value} {r : List Value} {x v : Int32} {n : Int} (hd : decode Y.2.1 pc = .ok (.iinc 17 n, 3)) (hq : pc + 3 = q) (hi : 17 < Y.2.2.1) (hp : a16.category = 1) (hv : x + Int32.ofInt n = v) (k : V g Y d q (a0 :: a1 :: a2 :: a3 :: a4 :: a5 :: a6 :: a7 :: a8 :: a9 :: a10 :: a11 :: a12 :: a13 :: a14 :: a15 :: a16 :: .int v :: r) st h Q) : V g Y d pc (a0 :: a1 :: a2 :: a3 :: a4 :: a5 :: a6 :: a7 :: a8 :: a9 :: a10 :: a11 :: a12 :: a13 :: a14 :: a15 :: a16 :: .int x :: r) st h Q := by
  subst hq
  refine V.step (fun p e R s m args below meth c H locs cells slots arr Qf hC hR hS hL kk => ?_) k
  obtain ⟨j, hj⟩ := List.getElem?_of_mem (mem_lvs.mpr ⟨hi, (show (a0 :: a1 :: a2 :: a3 :: a4 :: a5 :: a6 :: a7 :: a8 :: a9 :: a10 :: a11 :: a12 :: a13 :: a14 :: a15 :: a16 :: .int x :: r)[17]? = some (.int x) from rfl), fun e => by cases e⟩)
  exact lv_iinc hC.1 hC.2.1 hd hL.has hj hv hi rfl (fun arr' h' => kk arr' (Lok.st1 hL (fun j w e hw => by cases (show j = 16 by omega); cases hw; exact hp) h'))
theorem v_ild18 {a0 a1 a2 a3 a4 a5 a6 a7 a8 a9 a10 a11 a12 a13 a14 a15 a16 a17 : Value} {r : List Value} {x : Int32} (hd : decode Y.2.1 pc = .ok (.iload 18, 2)) (hq : pc + 2 = q) (k : V g Y d q (a0 :: a1 :: a2 :: a3 :: a4 :: a5 :: a6 :: a7 :: a8 :: a9 :: a10 :: a11 :: a12 :: a13 :: a14 :: a15 :: a16 :: a17 :: .int x :: r) (.int x :: st) h Q) : V g Y d pc (a0 :: a1 :: a2 :: a3 :: a4 :: a5 :: a6 :: a7 :: a8 :: a9 :: a10 :: a11 :: a12 :: a13 :: a14 :: a15 :: a16 :: a17 :: .int x :: r) st h Q := by
  subst hq
  exact V.step (fun p e R s m args below meth c H locs cells slots arr Qf hC hR hS hL kk => lv_iload hC.1 hC.2.1 hd (hL.2.2 18 _ rfl (fun e => by cases e)) (kk arr hL)) k
theorem v_lld18 {a0 a1 a2 a3 a4 a5 a6 a7 a8 a9 a10 a11 a12 a13 a14 a15 a16 a17 : Value} {r : List Value} {x : Int64} (hd : decode Y.2.1 pc = .ok (.lload 18, 2)) (hq : pc + 2 = q) (k : V g Y d q (a0 :: a1 :: a2 :: a3 :: a4 :: a5 :: a6 :: a7 :: a8 :: a9 :: a10 :: a11 :: a12 :: a13 :: a14 :: a15 :: a16 :: a17 :: .long x :: r) (.long x :: st) h Q) : V g Y d pc (a0 :: a1 :: a2 :: a3 :: a4 :: a5 :: a6 :: a7 :: a8 :: a9 :: a10 :: a11 :: a12 :: a13 :: a14 :: a15 :: a16 :: a17 :: .long x :: r) st h Q := by
  subst hq
  exact V.step (fun p e R s m args below meth c H locs cells slots arr Qf hC hR hS hL kk => lv_lload hC.1 hC.2.1 hd (hL.2.2 18 _ rfl (fun e => by cases e)) (kk arr hL)) k
theorem v_ald18 {a0 a1 a2 a3 a4 a5 a6 a7 a8 a9 a10 a11 a12 a13 a14 a15 a16 a17 : Value} {r : List Value} {v : Value} (hd : decode Y.2.1 pc = .ok (.aload 18, 2)) (hq : pc + 2 = q) (hv : isRf v = true) (k : V g Y d q (a0 :: a1 :: a2 :: a3 :: a4 :: a5 :: a6 :: a7 :: a8 :: a9 :: a10 :: a11 :: a12 :: a13 :: a14 :: a15 :: a16 :: a17 :: v :: r) (v :: st) h Q) : V g Y d pc (a0 :: a1 :: a2 :: a3 :: a4 :: a5 :: a6 :: a7 :: a8 :: a9 :: a10 :: a11 :: a12 :: a13 :: a14 :: a15 :: a16 :: a17 :: v :: r) st h Q := by
  subst hq
  rcases isRf_or hv with rfl | ⟨x, rfl⟩
  · exact V.step (fun p e R s m args below meth c H locs cells slots arr Qf hC hR hS hL kk => lv_aloadN hC.1 hC.2.1 hd (hL.2.2 18 _ rfl (fun e => by cases e)) (kk arr hL)) k
  · exact V.step (fun p e R s m args below meth c H locs cells slots arr Qf hC hR hS hL kk => lv_aload hC.1 hC.2.1 hd (hL.2.2 18 _ rfl (fun e => by cases e)) (kk arr hL)) k
theorem v_ist18 {a0 a1 a2 a3 a4 a5 a6 a7 a8 a9 a10 a11 a12 a13 a14 a15 a16 a17 u : Value}  {r : List Value} {x : Int32} (hd : decode Y.2.1 pc = .ok (.istore 18, 2)) (hq : pc + 2 = q) (hi : 18 < Y.2.2.1) (hp : a17.category = 1) (k : V g Y d q (a0 :: a1 :: a2 :: a3 :: a4 :: a5 :: a6 :: a7 :: a8 :: a9 :: a10 :: a11 :: a12 :: a13 :: a14 :: a15 :: a16 :: a17 :: .int x :: r) st h Q) : V g Y d pc (a0 :: a1 :: a2 :: a3 :: a4 :: a5 :: a6 :: a7 :: a8 :: a9 :: a10 :: a11 :: a12 :: a13 :: a14 :: a15 :: a16 :: a17 :: u :: r) (.int x :: st) h Q := by
  subst hq
  exact V.step (fun p e R s m args below meth c H locs cells slots arr Qf hC hR hS hL kk => lv_istore hC.1 hC.2.1 hd hL.has hi rfl (fun arr' h' => kk arr' (Lok.st1 hL (fun j w e hw => by cases (show j = 17 by omega); cases hw; exact hp) h'))) k
theorem v_ast18 {a0 a1 a2 a3 a4 a5 a6 a7 a8 a9 a10 a11 a12 a13 a14 a15 a16 a17 u v : Value}  {r : List Value} (hd : decode Y.2.1 pc = .ok (.astore 18, 2)) (hq : pc + 2 = q) (hi : 18 < Y.2.2.1) (hp : a17.category = 1) (hv : isRf v = true) (k : V g Y d q (a0 :: a1 :: a2 :: a3 :: a4 :: a5 :: a6 :: a7 :: a8 :: a9 :: a10 :: a11 :: a12 :: a13 :: a14 :: a15 :: a16 :: a17 :: v :: r) st h Q) : V g Y d pc (a0 :: a1 :: a2 :: a3 :: a4 :: a5 :: a6 :: a7 :: a8 :: a9 :: a10 :: a11 :: a12 :: a13 :: a14 :: a15 :: a16 :: a17 :: u :: r) (v :: st) h Q := by
  subst hq
  rcases isRf_or hv with rfl | ⟨x, rfl⟩
  · exact V.step (fun p e R s m args below meth c H locs cells slots arr Qf hC hR hS hL kk => lv_astoreN hC.1 hC.2.1 hd hL.has hi rfl (fun arr' h' => kk arr' (Lok.st1 hL (fun j w e hw => by cases (show j = 17 by omega); cases hw; exact hp) h'))) k
  · exact V.step (fun p e R s m args below meth c H locs cells slots arr Qf hC hR hS hL kk => lv_astore hC.1 hC.2.1 hd hL.has hi rfl (fun arr' h' => kk arr' (Lok.st1 hL (fun j w e hw => by cases (show j = 17 by omega); cases hw; exact hp) h'))) k
theorem v_lst18 {a0 a1 a2 a3 a4 a5 a6 a7 a8 a9 a10 a11 a12 a13 a14 a15 a16 a17 u u2 : Value}  {r : List Value} {x : Int64} (hd : decode Y.2.1 pc = .ok (.lstore 18, 2)) (hq : pc + 2 = q) (hi : 18 + 1 < Y.2.2.1) (hp : a17.category = 1) (k : V g Y d q (a0 :: a1 :: a2 :: a3 :: a4 :: a5 :: a6 :: a7 :: a8 :: a9 :: a10 :: a11 :: a12 :: a13 :: a14 :: a15 :: a16 :: a17 :: .long x :: zz :: r) st h Q) : V g Y d pc (a0 :: a1 :: a2 :: a3 :: a4 :: a5 :: a6 :: a7 :: a8 :: a9 :: a10 :: a11 :: a12 :: a13 :: a14 :: a15 :: a16 :: a17 :: u :: u2 :: r) (.long x :: st) h Q := by
  subst hq
  exact V.step (fun p e R s m args below meth c H locs cells slots arr Qf hC hR hS hL kk => lv_lstore hC.1 hC.2.1 hd hL.has hi rfl (fun arr' h' => kk arr' (Lok.st2 hL (fun j w e hw => by cases (show j = 17 by omega); cases hw; exact hp) h'))) k
theorem v_inc18 {a0 a1 a2 a3 a4 a5 a6 a7 a8 a9 a10 a11 a12 a13 a14 a15 a16 a17 : Value} {r : List Value} {x v : Int32} {n : Int} (hd : decode Y.2.1 pc = .ok (.iinc 18 n, 3)) (hq : pc + 3 = q) (hi : 18 < Y.2.2.1) (hp : a17.category = 1) (hv : x + Int32.ofInt n = v) (k : V g Y d q (a0 :: a1 :: a2 :: a3 :: a4 :: a5 :: a6 :: a7 :: a8 :: a9 :: a10 :: a11 :: a12 :: a13 :: a14 :: a15 :: a16 :: a17 :: .int v :: r) st h Q) : V g Y d pc (a0 :: a1 :: a2 :: a3 :: a4 :: a5 :: a6 :: a7 :: a8 :: a9 :: a10 :: a11 :: a12 :: a13 :: a14 :: a15 :: a16 :: a17 :: .int x :: r) st h Q := by
  subst hq
  refine V.step (fun p e R s m args below meth c H locs cells slots arr Qf hC hR hS hL kk => ?_) k
  obtain ⟨j, hj⟩ := List.getElem?_of_mem (mem_lvs.mpr ⟨hi, (show (a0 :: a1 :: a2 :: a3 :: a4 :: a5 :: a6 :: a7 :: a8 :: a9 :: a10 :: a11 :: a12 :: a13 :: a14 :: a15 :: a16 :: a17 :: .int x :: r)[18]? = some (.int x) from rfl), fun e => by cases e⟩)
  exact lv_iinc hC.1 hC.2.1 hd hL.has hj hv hi rfl (fun arr' h' => kk arr' (Lok.st1 hL (fun j w e hw => by cases (show j = 17 by omega); cases hw; exact hp) h'))
theorem v_ild19 {a0 a1 a2 a3 a4 a5 a6 a7 a8 a9 a10 a11 a12 a13 a14 a15 a16 a17 a18 : Value} {r : List Value} {x : Int32} (hd : decode Y.2.1 pc = .ok (.iload 19, 2)) (hq : pc + 2 = q) (k : V g Y d q (a0 :: a1 :: a2 :: a3 :: a4 :: a5 :: a6 :: a7 :: a8 :: a9 :: a10 :: a11 :: a12 :: a13 :: a14 :: a15 :: a16 :: a17 :: a18 :: .int x :: r) (.int x :: st) h Q) : V g Y d pc (a0 :: a1 :: a2 :: a3 :: a4 :: a5 :: a6 :: a7 :: a8 :: a9 :: a10 :: a11 :: a12 :: a13 :: a14 :: a15 :: a16 :: a17 :: a18 :: .int x :: r) st h Q := by
  subst hq
  exact V.step (fun p e R s m args below meth c H locs cells slots arr Qf hC hR hS hL kk => lv_iload hC.1 hC.2.1 hd (hL.2.2 19 _ rfl (fun e => by cases e)) (kk arr hL)) k
theorem v_lld19 {a0 a1 a2 a3 a4 a5 a6 a7 a8 a9 a10 a11 a12 a13 a14 a15 a16 a17 a18 : Value} {r : List Value} {x : Int64} (hd : decode Y.2.1 pc = .ok (.lload 19, 2)) (hq : pc + 2 = q) (k : V g Y d q (a0 :: a1 :: a2 :: a3 :: a4 :: a5 :: a6 :: a7 :: a8 :: a9 :: a10 :: a11 :: a12 :: a13 :: a14 :: a15 :: a16 :: a17 :: a18 :: .long x :: r) (.long x :: st) h Q) : V g Y d pc (a0 :: a1 :: a2 :: a3 :: a4 :: a5 :: a6 :: a7 :: a8 :: a9 :: a10 :: a11 :: a12 :: a13 :: a14 :: a15 :: a16 :: a17 :: a18 :: .long x :: r) st h Q := by
  subst hq
  exact V.step (fun p e R s m args below meth c H locs cells slots arr Qf hC hR hS hL kk => lv_lload hC.1 hC.2.1 hd (hL.2.2 19 _ rfl (fun e => by cases e)) (kk arr hL)) k
theorem v_ald19 {a0 a1 a2 a3 a4 a5 a6 a7 a8 a9 a10 a11 a12 a13 a14 a15 a16 a17 a18 : Value} {r : List Value} {v : Value} (hd : decode Y.2.1 pc = .ok (.aload 19, 2)) (hq : pc + 2 = q) (hv : isRf v = true) (k : V g Y d q (a0 :: a1 :: a2 :: a3 :: a4 :: a5 :: a6 :: a7 :: a8 :: a9 :: a10 :: a11 :: a12 :: a13 :: a14 :: a15 :: a16 :: a17 :: a18 :: v :: r) (v :: st) h Q) : V g Y d pc (a0 :: a1 :: a2 :: a3 :: a4 :: a5 :: a6 :: a7 :: a8 :: a9 :: a10 :: a11 :: a12 :: a13 :: a14 :: a15 :: a16 :: a17 :: a18 :: v :: r) st h Q := by
  subst hq
  rcases isRf_or hv with rfl | ⟨x, rfl⟩
  · exact V.step (fun p e R s m args below meth c H locs cells slots arr Qf hC hR hS hL kk => lv_aloadN hC.1 hC.2.1 hd (hL.2.2 19 _ rfl (fun e => by cases e)) (kk arr hL)) k
  · exact V.step (fun p e R s m args below meth c H locs cells slots arr Qf hC hR hS hL kk => lv_aload hC.1 hC.2.1 hd (hL.2.2 19 _ rfl (fun e => by cases e)) (kk arr hL)) k
theorem v_ist19 {a0 a1 a2 a3 a4 a5 a6 a7 a8 a9 a10 a11 a12 a13 a14 a15 a16 a17 a18 u : Value}  {r : List Value} {x : Int32} (hd : decode Y.2.1 pc = .ok (.istore 19, 2)) (hq : pc + 2 = q) (hi : 19 < Y.2.2.1) (hp : a18.category = 1) (k : V g Y d q (a0 :: a1 :: a2 :: a3 :: a4 :: a5 :: a6 :: a7 :: a8 :: a9 :: a10 :: a11 :: a12 :: a13 :: a14 :: a15 :: a16 :: a17 :: a18 :: .int x :: r) st h Q) : V g Y d pc (a0 :: a1 :: a2 :: a3 :: a4 :: a5 :: a6 :: a7 :: a8 :: a9 :: a10 :: a11 :: a12 :: a13 :: a14 :: a15 :: a16 :: a17 :: a18 :: u :: r) (.int x :: st) h Q := by
  subst hq
  exact V.step (fun p e R s m args below meth c H locs cells slots arr Qf hC hR hS hL kk => lv_istore hC.1 hC.2.1 hd hL.has hi rfl (fun arr' h' => kk arr' (Lok.st1 hL (fun j w e hw => by cases (show j = 18 by omega); cases hw; exact hp) h'))) k
theorem v_ast19 {a0 a1 a2 a3 a4 a5 a6 a7 a8 a9 a10 a11 a12 a13 a14 a15 a16 a17 a18 u v : Value}  {r : List Value} (hd : decode Y.2.1 pc = .ok (.astore 19, 2)) (hq : pc + 2 = q) (hi : 19 < Y.2.2.1) (hp : a18.category = 1) (hv : isRf v = true) (k : V g Y d q (a0 :: a1 :: a2 :: a3 :: a4 :: a5 :: a6 :: a7 :: a8 :: a9 :: a10 :: a11 :: a12 :: a13 :: a14 :: a15 :: a16 :: a17 :: a18 :: v :: r) st h Q) : V g Y d pc (a0 :: a1 :: a2 :: a3 :: a4 :: a5 :: a6 :: a7 :: a8 :: a9 :: a10 :: a11 :: a12 :: a13 :: a14 :: a15 :: a16 :: a17 :: a18 :: u :: r) (v :: st) h Q := by
  subst hq
  rcases isRf_or hv with rfl | ⟨x, rfl⟩
  · exact V.step (fun p e R s m args below meth c H locs cells slots arr Qf hC hR hS hL kk => lv_astoreN hC.1 hC.2.1 hd hL.has hi rfl (fun arr' h' => kk arr' (Lok.st1 hL (fun j w e hw => by cases (show j = 18 by omega); cases hw; exact hp) h'))) k
  · exact V.step (fun p e R s m args below meth c H locs cells slots arr Qf hC hR hS hL kk => lv_astore hC.1 hC.2.1 hd hL.has hi rfl (fun arr' h' => kk arr' (Lok.st1 hL (fun j w e hw => by cases (show j = 18 by omega); cases hw; exact hp) h'))) k
theorem v_lst19 {a0 a1 a2 a3 a4 a5 a6 a7 a8 a9 a10 a11 a12 a13 a14 a15 a16 a17 a18 u u2 : Value}  {r : List Value} {x : Int64} (hd : decode Y.2.1 pc = .ok (.lstore 19, 2)) (hq : pc + 2 = q) (hi : 19 + 1 < Y.2.2.1) (hp : a18.category = 1) (k : V g Y d q (a0 :: a1 :: a2 :: a3 :: a4 :: a5 :: a6 :: a7 :: a8 :: a9 :: a10 :: a11 :: a12 :: a13 :: a14 :: a15 :: a16 :: a17 :: a18 :: .long x :: zz :: r) st h Q) : V g Y d pc (a0 :: a1 :: a2 :: a3 :: a4 :: a5 :: a6 :: a7 :: a8 :: a9 :: a10 :: a11 :: a12 :: a13 :: a14 :: a15 :: a16 :: a17 :: a18 :: u :: u2 :: r) (.long x :: st) h Q := by
  subst hq
  exact V.step (fun p e R s m args below meth c H locs cells slots arr Qf hC hR hS hL kk => lv_lstore hC.1 hC.2.1 hd hL.has hi rfl (fun arr' h' => kk arr' (Lok.st2 hL (fun j w e hw => by cases (show j = 18 by omega); cases hw; exact hp) h'))) k
theorem v_inc19 {a0 a1 a2 a3 a4 a5 a6 a7 a8 a9 a10 a11 a12 a13 a14 a15 a16 a17 a18 : Value} {r : List Value} {x v : Int32} {n : Int} (hd : decode Y.2.1 pc = .ok (.iinc 19 n, 3)) (hq : pc + 3 = q) (hi : 19 < Y.2.2.1) (hp : a18.category = 1) (hv : x + Int32.ofInt n = v) (k : V g Y d q (a0 :: a1 :: a2 :: a3 :: a4 :: a5 :: a6 :: a7 :: a8 :: a9 :: a10 :: a11 :: a12 :: a13 :: a14 :: a15 :: a16 :: a17 :: a18 :: .int v :: r) st h Q) : V g Y d pc (a0 :: a1 :: a2 :: a3 :: a4 :: a5 :: a6 :: a7 :: a8 :: a9 :: a10 :: a11 :: a12 :: a13 :: a14 :: a15 :: a16 :: a17 :: a18 :: .int x :: r) st h Q := by
  subst hq
  refine V.step (fun p e R s m args below meth c H locs cells slots arr Qf hC hR hS hL kk => ?_) k
  obtain ⟨j, hj⟩ := List.getElem?_of_mem (mem_lvs.mpr ⟨hi, (show (a0 :: a1 :: a2 :: a3 :: a4 :: a5 :: a6 :: a7 :: a8 :: a9 :: a10 :: a11 :: a12 :: a13 :: a14 :: a15 :: a16 :: a17 :: a18 :: .int x :: r)[19]? = some (.int x) from rfl), fun e => by cases e⟩)
  exact lv_iinc hC.1 hC.2.1 hd hL.has hj hv hi rfl (fun arr' h' => kk arr' (Lok.st1 hL (fun j w e hw => by cases (show j = 18 by omega); cases hw; exact hp) h'))
theorem v_iret {x : Int32} (hd : decode Y.2.1 pc = .ok (.ireturn, 1)) (hr : Y.2.2.2 = some .int) (k : Q (some (.int x)) h) : V g Y d pc ls [.int x] h Q :=
  V.ret (fun p e R s m args below meth c H locs arr h0 hC hq hf => W.iret hC.1 hC.2.1 (hC.2.2.1.trans hr) hq hf hd (hlocks := hC.2.2.2.2.2.2.1)) k
theorem v_zret {x : Int32} (hd : decode Y.2.1 pc = .ok (.ireturn, 1)) (hr : Y.2.2.2 = some .boolean) (hx : narrow .boolean (.int x) = .int x) (k : Q (some (.int x)) h) : V g Y d pc ls [.int x] h Q :=
  V.ret (fun p e R s m args below meth c H locs arr h0 hC hq hf => W.zret hC.1 hC.2.1 (hC.2.2.1.trans hr) hx hq hf hd (hlocks := hC.2.2.2.2.2.2.1)) k
theorem v_lret {x : Int64} (hd : decode Y.2.1 pc = .ok (.lreturn, 1)) (hr : Y.2.2.2 = some .long) (k : Q (some (.long x)) h) : V g Y d pc ls [.long x] h Q :=
  V.ret (fun p e R s m args below meth c H locs arr h0 hC hq hf => W.lret hC.1 hC.2.1 (hC.2.2.1.trans hr) hq hf hd (hlocks := hC.2.2.2.2.2.2.1)) k
theorem v_vret (hd : decode Y.2.1 pc = .ok (.return_, 1)) (hr : Y.2.2.2 = none) (k : Q none h) : V g Y d pc ls [] h Q :=
  V.ret (fun p e R s m args below meth c H locs arr h0 hC hq hf => W.vret hC.1 hC.2.1 (hC.2.2.1.trans hr) hq hf hd (hlocks := hC.2.2.2.2.2.2.1)) k
theorem v_aret {v : Value} {rt : FieldType} (hd : decode Y.2.1 pc = .ok (.areturn, 1)) (hr : Y.2.2.2 = some rt) (hrt : (∃ n, rt = .object n) ∨ ∃ t, rt = .array t) (hv : isRf v = true) (k : Q (some v) h) : V g Y d pc ls [v] h Q :=
  V.ret (fun p e R s m args below meth c H locs arr h0 hC hq hf => W.aret hC.1 hC.2.1 (hC.2.2.1.trans hr) hrt (isRf_or hv) hq hf hd (hlocks := hC.2.2.2.2.2.2.1)) k
end R4
