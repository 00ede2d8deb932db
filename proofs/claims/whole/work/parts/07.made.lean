/-! 07: what is made (objects, rows), reads and writes of rows, casts -/
def NW (own : String) (idx ci N : Nat) : Prop := ∃ (C : String) (T : u_T) (ty : Nat → FieldType), CL ci C T N ty ∧ Cond.classLink own idx C ∈ tb ∧ Cond.instantiable C N ∈ tb ∧ Cond.initialized C ∈ tb
def kAt : ArrayType → Nat
  | .int => 21
  | .long => 22
  | .boolean => 23
  | _ => 0
theorem RA_eq {s : State} {c1 c2 : ClassId} {ty : FieldType} (h1 : va_RA s c1 ty) (h2 : va_RA s c2 ty) : c1 = c2 := by
  cases ty with
  | object C =>
    obtain ⟨-, -, -, -, -, e1⟩ := h1
    obtain ⟨-, -, -, -, -, e2⟩ := h2
    exact Option.some.inj (e1.symm.trans e2)
  | _ =>
    have e1 : s.vm.findClass _ = some c1 := h1
    have e2 : s.vm.findClass _ = some c2 := h2
    exact Option.some.inj (e1.symm.trans e2)
theorem Kn.arr {g : Gl} {s : State} (h : Kn g s) {k : Nat} (h1 : 21 ≤ k) (h2 : k ≤ 28) : ArrOfT s (g.2.2.1 k) (aty k) ∧ va_RA s (g.2.2.1 k) (aty k) := by
  have hg : (gtys g)[k - 21]? = some (g.2.2.1 k, aty k) := by
    rcases (show k = 21 ∨ k = 22 ∨ k = 23 ∨ k = 24 ∨ k = 25 ∨ k = 26 ∨ k = 27 ∨ k = 28 by omega) with rfl | rfl | rfl | rfl | rfl | rfl | rfl | rfl <;> rfl
  exact h.2.1.2 _ _ hg
theorem Ext.made {h h1 : Hp} {N : Nat} (e1 : hz h1 = hz h + 1) (e2 : hs h1 = hs h + N) (e3 : hL h1 = hL h ++ [hz h]) : Ext h h1 := by
  refine ⟨by omega, by omega, fun a ha => ?_⟩
  rw [e3] at ha
  rcases List.mem_append.mp ha with h | h
  · exact Or.inl h
  · exact Or.inr (by rw [List.mem_singleton.mp h]; exact Nat.le_refl _)
section R7
variable {g : Gl} {Y : Mth} {d pc q : Nat} {ls st : List Value} {h h1 : Hp} {Q : Option Value → Hp → Prop} {H H1 : Heap}
theorem v_new {idx ci N : Nat} (hd : decode Y.2.1 pc = .ok (.new idx, 3)) (hq : pc + 3 = q) (hl : NW Y.1.cls idx ci N) (k : V g Y d q ls (.ref (hz h) :: st) (nObj h (ci + 1) N) Q) : V g Y d pc ls st h Q := by
  subst hq
  obtain ⟨C, T, ty, ⟨c1, c2, c3, c4, c5, c6, c7, c8⟩, w1, w2, w3⟩ := hl
  refine V.move (h1 := nObj h (ci + 1) N) (Ext.made rfl rfl rfl) (fun p e R s m args below meth c H locs cells slots arr Qf hC hR hS hL hc hsl kk => ?_) k
  have ez : hz (nObj h (ci + 1) N) - hz h = 1 := by show hz h + 1 - hz h = 1; omega
  have es : hs (nObj h (ci + 1) N) - hs h = N := by show hs h + N - hs h = N; omega
  rw [ez] at hc
  rw [es] at hsl
  rw [ez, es] at kk
  have hKs := hC.kn.2.1
  have hKn := hKs.1 ci _ c1
  have hB := hC.base hR hS
  refine W.newcK hC.1 hC.2.1 hC.own (hC.ts _ w1) (hC.ts _ w2) (hC.ts _ w3) rfl hd hc hsl hKn.2.1 hR.1 fun H1 kC hkC e1 z1 o1 => ?_
  refine kk H1 locs (hR.push (e := .inr (ci, (cfl ci).map dval)) hB ⟨_, c1, (u_born ty hC.ts c2 hKn hkC e1 c3).to c8⟩ z1 o1 (fun b => ?_) rfl rfl (fun b hb => ?_)) (hS.grow (by rw [z1, hR.1]; omega) (fun q hq => o1 q (by rw [← hR.1]; exact hq))) (fun q hq _ => o1 q (by rw [← hR.1]; exact hq))
  · by_cases hb : b = hz h
    · subst hb
      rw [va_up_self, cellOf_obj (h := nObj h (ci + 1) N) (ci := ci) (by simp [nObj, hK, upR]) c6]
      congr 2
      apply List.map_congr_left
      intro x _
      simp [fval, dval, nObj, fI, fL, fP, hz, va_rf]
    · rw [va_up_ne _ _ hb]
      have h2 : fval (nObj h (ci + 1) N) b = fval h b := funext fun y => by
        have hb' : ¬ b = hz h := hb
        simp [fval, nObj, fI, fL, fP, hb']
      have h3 : hK (nObj h (ci + 1) N) b = hK h b := by simp [nObj, hK, upR, hb]
      unfold cellOf
      rw [h2, h3]
      rfl
  · by_cases hbe : b = hz h
    · exact Or.inl hbe
    · refine Or.inr ?_
      have h3 : hK (nObj h (ci + 1) N) b = hK h b := by simp [nObj, hK, upR, hbe]
      rw [← h3]
      exact hb
theorem cell_nArr {k N : Nat} {e : va_E} (h0 : 20 < k) (he : e = .inl (g.2.2.1 k, N, if k = 21 ∨ k = 23 then .inl (fun _ => 0) else if k = 22 then .inr (.inl (fun _ => 0)) else .inr (.inr (.inr (.inr (fun _ => none)))))) (b : Nat) : va_up (cellOf g h) (hz h) e b = cellOf g (nArr h k N) b := by
  by_cases hb : b = hz h
  · subst hb
    rw [va_up_self, he]
    unfold cellOf
    have h3 : hK (nArr h k N) (hz h) = k := by simp [nArr, hK, upR]
    have h4 : hN (nArr h k N) (hz h) = N := by simp [nArr, hN, upR]
    have h5 : aI (nArr h k N) (hz h) = fun _ => 0 := by simp [nArr, aI, upR]
    have h6 : aL (nArr h k N) (hz h) = fun _ => 0 := by simp [nArr, aL, upR]
    have h7 : aP (nArr h k N) (hz h) = fun _ => none := by simp [nArr, aP, upR]
    rw [h3, h4, h5, h6, h7, if_neg (show ¬ k < 20 by omega)]
  · rw [va_up_ne _ _ hb]
    have h3 : hK (nArr h k N) b = hK h b := by simp [nArr, hK, upR, hb]
    have h4 : hN (nArr h k N) b = hN h b := by simp [nArr, hN, upR, hb]
    have h5 : aI (nArr h k N) b = aI h b := by simp [nArr, aI, upR, hb]
    have h6 : aL (nArr h k N) b = aL h b := by simp [nArr, aL, upR, hb]
    have h7 : aP (nArr h k N) b = aP h b := by simp [nArr, aP, upR, hb]
    have h8 : fval (nArr h k N) b = fval h b := rfl
    unfold cellOf
    rw [h3, h4, h5, h6, h7, h8]
theorem nArr_K {k N : Nat} (b : Nat) (hb : hK (nArr h k N) b ≠ 0) : b = hz h ∨ hK h b ≠ 0 := by
  by_cases hbe : b = hz h
  · exact Or.inl hbe
  · refine Or.inr ?_
    have h3 : hK (nArr h k N) b = hK h b := by simp [nArr, hK, upR, hbe]
    rw [← h3]
    exact hb
theorem v_newarray {at0 : ArrayType} {n : Int32} {k N : Nat} (hd : decode Y.2.1 pc = .ok (.newarray at0, 2)) (hq : pc + 2 = q) (hk : kAt at0 = k ∧ k ≠ 0) (hw : Cond.arrayClass (newarray.typeOf at0) ∈ tb) (hn : n = nI N) (hN : N ≤ 60000000) (kk : V g Y d q ls (.ref (hz h) :: st) (nArr h k N) Q) : V g Y d pc ls (.int n :: st) h Q := by
  subst hq
  obtain ⟨rfl, hk0⟩ := hk
  refine V.move (h1 := nArr h (kAt at0) N) (Ext.made rfl rfl rfl) (fun p e R s m args below meth c H locs cells slots arr Qf hC hR hS hL hc hsl kk => ?_) kk
  have ez : hz (nArr h (kAt at0) N) - hz h = 1 := by show hz h + 1 - hz h = 1; omega
  have es : hs (nArr h (kAt at0) N) - hs h = N := by show hs h + N - hs h = N; omega
  rw [ez] at hc
  rw [es] at hsl
  rw [ez, es] at kk
  have hB := hC.base hR hS
  have hty : newarray.typeOf at0 = aty (kAt at0) ∧ 21 ≤ kAt at0 ∧ kAt at0 ≤ 23 := by
    cases at0 <;> first | exact ⟨rfl, by decide, by decide⟩ | exact absurd rfl hk0
  refine va_newaK hC.1 hC.2.1 (hC.ts _ hw) rfl hd rfl (by rw [hn]; exact nI_pos (by omega)) (by rw [hn]; exact nI_clamp (by omega)) (by cases at0 <;> simp [newarray.typeOf, componentBytes] <;> omega) hc hsl hR.1 fun H1 cA e1 z1 o1 hAr hNm => ?_
  obtain ⟨t1, t2, t3⟩ := hty
  have hRA : va_RA s cA (aty (kAt at0)) := by
    rw [← t1]
    cases at0 <;> exact hNm
  have hcA : cA = g.2.2.1 (kAt at0) := RA_eq hRA (hC.kn.arr t2 (by omega)).2
  subst hcA
  refine kk H1 locs (hR.push (e := .inl (g.2.2.1 (kAt at0), N, if kAt at0 = 21 ∨ kAt at0 = 23 then .inl (fun _ => 0) else if kAt at0 = 22 then .inr (.inl (fun _ => 0)) else .inr (.inr (.inr (.inr (fun _ => none)))))) hB ?_ z1 o1 (cell_nArr (by omega) rfl) rfl rfl nArr_K) (hS.grow (by rw [z1, hR.1]; omega) (fun q hq => o1 q (by rw [← hR.1]; exact hq))) (fun q hq _ => o1 q (by rw [← hR.1]; exact hq))
  show H1[hz h]? = some (vp_cell _ _)
  rw [e1]
  cases at0 <;> first | rfl | exact absurd rfl hk0
/-- a new row of references: the kind by the class's name -/
theorem v_anew {idx : Nat} {C : String} {n : Int32} {k N : Nat} (hd : decode Y.2.1 pc = .ok (.anewarray idx, 3)) (hq : pc + 3 = q) (hk : aty k = .object C ∧ 24 ≤ k ∧ k ≤ 27) (hw : Cond.classLink Y.1.cls idx C ∈ tb) (hw2 : Cond.arrayOver (.object C) ∈ tbN) (hn : n = nI N) (hN : N ≤ 60000000) (kk : V g Y d q ls (.ref (hz h) :: st) (nArr h k N) Q) : V g Y d pc ls (.int n :: st) h Q := by
  subst hq
  obtain ⟨t1, t2, t3⟩ := hk
  refine V.move (h1 := nArr h k N) (Ext.made rfl rfl rfl) (fun p e R s m args below meth c H locs cells slots arr Qf hC hR hS hL hc hsl kk => ?_) kk
  have ez : hz (nArr h k N) - hz h = 1 := by show hz h + 1 - hz h = 1; omega
  have es : hs (nArr h k N) - hs h = N := by show hs h + N - hs h = N; omega
  rw [ez] at hc
  rw [es] at hsl
  rw [ez, es] at kk
  have hB := hC.base hR hS
  have hcl : n.toNatClampNeg = N := by rw [hn]; exact nI_clamp (by omega)
  refine W.anew hC.1 hC.2.1 hC.own (hC.ts _ hw) (va_AO.use (hC.kn.1 _ hw2)) rfl hd rfl (by rw [hn]; exact nI_pos (by omega)) (by omega) hc (by rw [hcl]; exact hsl) fun cA kA comp f1 f2 f3 f4 => ?_
  have hRA : va_RA s cA (aty k) := by
    rw [t1]
    exact ⟨kA, comp, f2, f3, f4, f1⟩
  have hcA : cA = g.2.2.1 k := RA_eq hRA (hC.kn.arr (by omega) (by omega)).2
  subst hcA
  rw [hcl, hR.1, arrV_new]
  have z1 : (H.push (arrV (g.2.2.1 k) N (fun _ => .null))).size = hz h + 1 := by rw [Array.size_push, hR.1]
  have e1 : (H.push (arrV (g.2.2.1 k) N (fun _ => .null)))[hz h]? = some (arrV (g.2.2.1 k) N (fun _ => .null)) := by rw [← hR.1, Array.getElem?_push_size]
  have o1 : ∀ q : Nat, q < hz h → (H.push (arrV (g.2.2.1 k) N (fun _ => .null)))[q]? = H[q]? := fun q hq => by rw [Array.getElem?_push, if_neg (by have := hR.1; omega)]
  refine kk _ locs (hR.push (e := .inl (g.2.2.1 k, N, if k = 21 ∨ k = 23 then .inl (fun _ => 0) else if k = 22 then .inr (.inl (fun _ => 0)) else .inr (.inr (.inr (.inr (fun _ => none)))))) hB ?_ z1 o1 (cell_nArr (by omega) rfl) rfl rfl nArr_K) (hS.grow (by rw [z1, hR.1]; omega) (fun q hq => o1 q (by rw [← hR.1]; exact hq))) (fun q hq _ => o1 q (by rw [← hR.1]; exact hq))
  rw [if_neg (by omega), if_neg (by omega)]
  exact e1
theorem v_anewA {idx : Nat} {n : Int32} {N : Nat} (hd : decode Y.2.1 pc = .ok (.anewarray idx, 3)) (hq : pc + 3 = q) (hw : Cond.classLink Y.1.cls idx (FieldType.array .long).toString ∈ tb) (hw2 : Cond.arrayOver (.array .long) ∈ tbN) (hn : n = nI N) (hN : N ≤ 60000000) (kk : V g Y d q ls (.ref (hz h) :: st) (nArr h 28 N) Q) : V g Y d pc ls (.int n :: st) h Q := by
  subst hq
  refine V.move (h1 := nArr h 28 N) (Ext.made rfl rfl rfl) (fun p e R s m args below meth c H locs cells slots arr Qf hC hR hS hL hc hsl kk => ?_) kk
  have ez : hz (nArr h 28 N) - hz h = 1 := by show hz h + 1 - hz h = 1; omega
  have es : hs (nArr h 28 N) - hs h = N := by show hs h + N - hs h = N; omega
  rw [ez] at hc
  rw [es] at hsl
  rw [ez, es] at kk
  have hB := hC.base hR hS
  have hcl : n.toNatClampNeg = N := by rw [hn]; exact nI_clamp (by omega)
  refine W.anewA hC.1 hC.2.1 hC.own (hC.ts _ hw) (hC.kn.1 _ hw2) rfl hd rfl (by rw [hn]; exact nI_pos (by omega)) (by omega) hc (by rw [hcl]; exact hsl) fun cA kA comp f1 f2 f3 f4 => ?_
  have hRA : va_RA s cA (aty 28) := f1
  have hcA : cA = g.2.2.1 28 := RA_eq hRA (hC.kn.arr (by omega) (by omega)).2
  subst hcA
  rw [hcl, hR.1, arrV_new]
  have z1 : (H.push (arrV (g.2.2.1 28) N (fun _ => .null))).size = hz h + 1 := by rw [Array.size_push, hR.1]
  have e1 : (H.push (arrV (g.2.2.1 28) N (fun _ => .null)))[hz h]? = some (arrV (g.2.2.1 28) N (fun _ => .null)) := by rw [← hR.1, Array.getElem?_push_size]
  have o1 : ∀ q : Nat, q < hz h → (H.push (arrV (g.2.2.1 28) N (fun _ => .null)))[q]? = H[q]? := fun q hq => by rw [Array.getElem?_push, if_neg (by have := hR.1; omega)]
  refine kk _ locs (hR.push (e := .inl (g.2.2.1 28, N, if 28 = 21 ∨ 28 = 23 then .inl (fun _ => 0) else if 28 = 22 then .inr (.inl (fun _ => 0)) else .inr (.inr (.inr (.inr (fun _ => none)))))) hB ?_ z1 o1 (cell_nArr (by omega) rfl) rfl rfl nArr_K) (hS.grow (by rw [z1, hR.1]; omega) (fun q hq => o1 q (by rw [← hR.1]; exact hq))) (fun q hq _ => o1 q (by rw [← hR.1]; exact hq))
  rw [if_neg (by omega), if_neg (by omega)]
  exact e1
theorem Rh.cellI (hR : Rh g h H) {a : Nat} (hk : hK h a = 21 ∨ hK h a = 23) : H[a]? = some (arrV (g.2.2.1 (hK h a)) (hN h a) (fun j => .int (aI h a j))) := by
  obtain ⟨q0, h0⟩ := hR.get (a := a) (by omega)
  have := hR.2.1 q0 _ h0
  rcases hk with hk | hk
  · rw [cellOf_I hk] at this
    rw [hk]
    exact this
  · rw [cellOf_Z hk] at this
    rw [hk]
    exact this
theorem Rh.cellL (hR : Rh g h H) {a : Nat} (hk : hK h a = 22) : H[a]? = some (arrV (g.2.2.1 22) (hN h a) (fun j => .long (aL h a j))) := by
  obtain ⟨q0, h0⟩ := hR.get (a := a) (by omega)
  have := hR.2.1 q0 _ h0
  rw [cellOf_L hk] at this
  exact this
theorem Rh.cellP (hR : Rh g h H) {a k : Nat} (hk : hK h a = k) (h24 : 24 ≤ k) : H[a]? = some (arrV (g.2.2.1 k) (hN h a) (fun j => va_rf (aP h a j))) := by
  obtain ⟨q0, h0⟩ := hR.get (a := a) (by omega)
  have := hR.2.1 q0 _ h0
  rw [cellOf_P hk h24] at this
  exact this
theorem in_of {i : Int32} {j n : Nat} (hi : i = nI j) (hj : j < n) (hn : n < 2147483648) (c : ClassId) (f : Nat → Value) : ¬ (i < 0 ∨ (arrV c n f).slots.size ≤ i.toNatClampNeg) := by
  rw [arrV_size, hi]
  exact nI_in hj hn
theorem cl_of {i : Int32} {j n : Nat} (hi : i = nI j) (hj : j < n) (hn : n < 2147483648) : i.toNatClampNeg = j := by rw [hi]; exact nI_clamp (by omega)
theorem v_iald {i : Int32} {a : Nat} (j : Nat) (hd : decode Y.2.1 pc = .ok (.iaload, 1)) (hq : pc + 1 = q) (hk : hK h a = 21) (hi : i = nI j) (hj : j < hN h a) (hn : hN h a < 2147483648) (k : V g Y d q ls (.int (aI h a j) :: st) h Q) : V g Y d pc ls (.int i :: .ref a :: st) h Q := by
  subst hq
  refine V.step (fun p e R s m args below meth c H locs cells slots arr Qf hC hR hS hL kk => ?_) k
  have hc := hR.cellI (Or.inl hk)
  rw [hk] at hc
  exact W.iald hC.1 hC.2.1 hc ((hC.kn.arr (k := 21) (by omega) (by omega)).1 _ _) (fun q => by cases q) (in_of hi hj hn _ _) (by rw [cl_of hi hj hn]; exact arrV_read _ _ hj) rfl rfl hd (kk arr hL)
theorem v_zald {i : Int32} {a : Nat} (j : Nat) (hd : decode Y.2.1 pc = .ok (.baload, 1)) (hq : pc + 1 = q) (hk : hK h a = 23) (hi : i = nI j) (hj : j < hN h a) (hn : hN h a < 2147483648) (k : V g Y d q ls (.int (aI h a j) :: st) h Q) : V g Y d pc ls (.int i :: .ref a :: st) h Q := by
  subst hq
  refine V.step (fun p e R s m args below meth c H locs cells slots arr Qf hC hR hS hL kk => ?_) k
  have hc := hR.cellI (Or.inr hk)
  rw [hk] at hc
  exact W.zald hC.1 hC.2.1 hc ((hC.kn.arr (k := 23) (by omega) (by omega)).1 _ _) (fun q => by cases q) (in_of hi hj hn _ _) (by rw [cl_of hi hj hn]; exact arrV_read _ _ hj) rfl rfl hd (kk arr hL)
theorem v_lald {i : Int32} {a : Nat} (j : Nat) (hd : decode Y.2.1 pc = .ok (.laload, 1)) (hq : pc + 1 = q) (hk : hK h a = 22) (hi : i = nI j) (hj : j < hN h a) (hn : hN h a < 2147483648) (k : V g Y d q ls (.long (aL h a j) :: st) h Q) : V g Y d pc ls (.int i :: .ref a :: st) h Q := by
  subst hq
  refine V.step (fun p e R s m args below meth c H locs cells slots arr Qf hC hR hS hL kk => ?_) k
  have hc := hR.cellL hk
  exact W.lald hC.1 hC.2.1 hc ((hC.kn.arr (k := 22) (by omega) (by omega)).1 _ _) (fun q => by cases q) (in_of hi hj hn _ _) (by rw [cl_of hi hj hn]; exact arrV_read _ _ hj) rfl rfl hd (kk arr hL)
theorem v_aald {i : Int32} {a kk0 : Nat} (j : Nat) (hd : decode Y.2.1 pc = .ok (.aaload, 1)) (hq : pc + 1 = q) (hk : hK h a = kk0 ∧ 24 ≤ kk0 ∧ kk0 ≤ 28) (hi : i = nI j) (hj : j < hN h a) (hn : hN h a < 2147483648) (k : V g Y d q ls (va_rf (aP h a j) :: st) h Q) : V g Y d pc ls (.int i :: .ref a :: st) h Q := by
  subst hq
  obtain ⟨hk, k1, k2⟩ := hk
  refine V.step (fun p e R s m args below meth c H locs cells slots arr Qf hC hR hS hL kk => ?_) k
  have hc := hR.cellP hk k1
  have hty : (aty kk0).isReference = true := by
    rcases (show kk0 = 24 ∨ kk0 = 25 ∨ kk0 = 26 ∨ kk0 = 27 ∨ kk0 = 28 by omega) with rfl | rfl | rfl | rfl | rfl <;> rfl
  exact W.aald hC.1 hC.2.1 hc ((hC.kn.arr (k := kk0) (by omega) (by omega)).1 _ _) hty (fun q => by cases q) (in_of hi hj hn _ _) (by rw [cl_of hi hj hn]; exact arrV_read _ _ hj) rfl rfl hd (kk arr hL)
theorem v_alen {a kk0 : Nat} (hd : decode Y.2.1 pc = .ok (.arraylength, 1)) (hq : pc + 1 = q) (hk : hK h a = kk0 ∧ 21 ≤ kk0 ∧ kk0 ≤ 28) (k : V g Y d q ls (.int (nI (hN h a)) :: st) h Q) : V g Y d pc ls (.ref a :: st) h Q := by
  subst hq
  obtain ⟨hk, k1, k2⟩ := hk
  refine V.step (fun p e R s m args below meth c H locs cells slots arr Qf hC hR hS hL kk => ?_) k
  have hs0 : ∀ (c : ClassId) (f : Nat → Value), (arrV c (hN h a) f).slots.size.toInt32 = nI (hN h a) := fun c f => by rw [arrV_size]; rfl
  have hA := (hC.kn.arr (k := kk0) k1 k2).1
  by_cases c1 : kk0 = 21 ∨ kk0 = 23
  · have hc := hR.cellI (a := a) (by rw [hk]; exact c1)
    rw [hk] at hc
    exact W.alen hC.1 hC.2.1 hc (hA _ _) (hs0 _ _) rfl rfl hd (kk arr hL)
  · by_cases c2 : kk0 = 22
    · subst c2
      exact W.alen hC.1 hC.2.1 (hR.cellL hk) (hA _ _) (hs0 _ _) rfl rfl hd (kk arr hL)
    · exact W.alen hC.1 hC.2.1 (hR.cellP hk (by omega)) (hA _ _) (hs0 _ _) rfl rfl hd (kk arr hL)
/-- the empty row of ArrayList -/
theorem v_alenE (hd : decode Y.2.1 pc = .ok (.arraylength, 1)) (hq : pc + 1 = q) (k : V g Y d q ls (.int 0 :: st) h Q) : V g Y d pc ls (.ref g.2.2.2.2.1 :: st) h Q := by
  subst hq
  refine V.step (fun p e R s m args below meth c H locs cells slots arr Qf hC hR hS hL kk => ?_) k
  obtain ⟨-, -, -, -, ⟨cell, h4, h4a, h4s⟩, h5, h6, -⟩ := hC.kn
  have hc : H[g.2.2.2.2.1]? = some cell := by
    rw [hS.2.1 _ (Nat.lt_of_lt_of_le h5 h6) (Nat.not_le.mpr h5)]
    exact h4
  exact W.alen hC.1 hC.2.1 hc h4a h4s rfl rfl hd (kk arr hL)
theorem v_gets {idx : Nat} (hd : decode Y.2.1 pc = .ok (.getstatic idx, 3)) (hq : pc + 3 = q) (hw : Cond.fieldLink Y.1.cls idx "java/util/ArrayList" "DEFAULTCAPACITY_EMPTY_ELEMENTDATA" "[Ljava/lang/Object;" ∈ tb) (k : V g Y d q ls (.ref g.2.2.2.2.1 :: st) h Q) : V g Y d pc ls st h Q := by
  subst hq
  refine V.step (fun p e R s m args below meth c H locs cells slots arr Qf hC hR hS hL kk => ?_) k
  obtain ⟨-, -, -, h3, -⟩ := hC.kn
  exact va_gets hC.1 hC.2.1 h3 hS hC.own (hC.ts _ hw) (fun _ h => h) hd (kk arr hL)
end R7
