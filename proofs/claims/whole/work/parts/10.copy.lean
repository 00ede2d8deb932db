/-! 10: copies of rows; class objects -/
theorem nn_toInt (z : Int32) (hz : ¬ z < 0) : z.toInt = (z.toNatClampNeg : Int) := by
  have hz0 : (0 : Int) ≤ z.toInt := by
    have := Int32.not_lt.mp hz
    simpa using Int32.le_iff_toInt_le.mp this
  show z.toInt = ((z.toInt.toNat : Nat) : Int)
  omega
theorem nfw : nativeFrameWords "java/lang/System" "arraycopy" 5 = 7 := by decide
def cpW (own : String) (idx : Nat) : Prop := Cond.methodLink own idx arraycopyName ∈ tb ∧ Cond.native arraycopyName ∈ tb ∧ Cond.static arraycopyName ∈ tb ∧ Cond.initialized "java/lang/System" ∈ tb
section R10
variable {g : Gl} {Y : Mth} {d pc q : Nat} {ls st : List Value} {h : Hp} {Q : Option Value → Hp → Prop}
theorem v_copyL {idx a0 a : Nat} {sp dp n : Int32} (i j w : Nat) (hd : decode Y.2.1 pc = .ok (.invokestatic idx, 3)) (hq : pc + 3 = q) (hw : cpW Y.1.cls idx) (hd1 : 1 ≤ d) (hk0 : hK h a0 = 22) (hk : hK h a = 22) (e1 : sp = nI i) (e2 : dp = nI j) (e3 : n = nI w) (h4 : i + w ≤ hN h a0) (h5 : j + w ≤ hN h a) (h6 : hN h a0 < 2147483648) (h7 : hN h a < 2147483648) (hr : (st.map fun v => v.category).sum ≤ 8)
    (k : V g Y d q ls st (sAL h a (va_cpy (aL h a0) (aL h a) i j w)) Q) : V g Y d pc ls (.int n :: .int dp :: .ref a :: .int sp :: .ref a0 :: st) h Q := by
  subst hq
  have c1 : sp.toNatClampNeg = i := by rw [e1]; exact nI_clamp (by omega)
  have c2 : dp.toNatClampNeg = j := by rw [e2]; exact nI_clamp (by omega)
  have c3 : n.toNatClampNeg = w := by rw [e3]; exact nI_clamp (by omega)
  have p1 : ¬ sp < 0 := by rw [e1]; exact nI_pos (by omega)
  have p2 : ¬ dp < 0 := by rw [e2]; exact nI_pos (by omega)
  have p3 : ¬ n < 0 := by rw [e3]; exact nI_pos (by omega)
  refine V.move (h1 := sAL h a (va_cpy (aL h a0) (aL h a) i j w)) (Ext.rf h) (fun p e R s m args below meth c H locs cells slots arr Qf hC hR hS hL hc hsl kk => ?_) k
  obtain ⟨x1, x2, x3, x4, x5, x6, x7, x8, x9, x10, x11⟩ := id hC
  have hc0 := hR.cellL hk0
  have hc1 := hR.cellL hk
  have hA : gA g a := (hR.lt (by omega : hK h a ≠ 0)).2
  obtain ⟨-, k1, hk1, cm1, hkk1⟩ := (hC.kn.arr (k := 22) (by omega) (by omega)).1 0 (fun _ => .null)
  intro T hT X
  obtain ⟨vm', X', step⟩ := X.arraycopy x1 x6 (x5 _ hw.1) (x5 _ hw.2.1) (x5 _ hw.2.2.1) (x5 _ hw.2.2.2) (src := a0) (dst := a) (cs := arrV (g.2.2.1 22) (hN h a0) (fun j => .long (aL h a0 j))) (cd := arrV (g.2.2.1 22) (hN h a) (fun j => .long (aL h a j))) (srcPos := sp) (destPos := dp) (n := n) (by rw [hT]; exact hc0) (by rw [hT]; exact hc1)
    (fun _ h => by cases h) (fun _ h => by cases h) (fun h => by cases h) (fun h => by cases h) hk1 hk1 hkk1 hkk1 (by simp [aty, refKind]) p1 p2 p3
    (by rw [nn_toInt sp p1, nn_toInt n p3, arrV_size]; omega)
    (by rw [nn_toInt dp p2, nn_toInt n p3, arrV_size]; omega)
    (fun vm₁ _ i' hi => by
      have e : (arrV (g.2.2.1 22) (hN h a0) (fun j => .long (aL h a0 j))).slots.getD (sp.toNatClampNeg + i') .null = .long (aL h a0 (sp.toNatClampNeg + i')) := by
        rw [Array.getD_eq_getD_getElem?, arrV_read _ _ (by omega)]
        rfl
      rw [e]
      exact ⟨rfl, trivial⟩)
    (g := F0 m pc arr (.int n :: .int dp :: .ref a :: .int sp :: .ref a0 :: st)) rfl (by rw [x4]; exact hL.1) (rest := st) rfl (by rw [x2]; exact hd) (by omega) (by rw [nfw]; show 2 * 0 + _ + (7 + 11) ≤ R.locals; omega)
  have e7 : copied (arrV (g.2.2.1 22) (hN h a0) (fun j => .long (aL h a0 j))) (arrV (g.2.2.1 22) (hN h a) (fun j => .long (aL h a j))) sp dp n = arrV (g.2.2.1 22) (hN h a) (fun x => .long (va_cpy (aL h a0) (aL h a) sp.toNatClampNeg dp.toNatClampNeg n.toNatClampNeg x)) := va_copied (fun z => .long z) _ _ _ _ (by omega)
  rw [e7, c1, c2, c3] at X' step
  have hl : a < H.size := (Array.getElem?_eq_some_iff.mp hc1).1
  generalize hcn : arrV (g.2.2.1 22) (hN h a) (fun x => .long (va_cpy (aL h a0) (aL h a) i j w x)) = cn at X' step
  have oq : ∀ q : Nat, q ≠ a → (H.setIfInBounds a cn)[q]? = H[q]? := fun q hq => by simp [Array.getElem?_setIfInBounds, Ne.symm hq]
  have hz1 : (H.setIfInBounds a cn).size = H.size := by simp
  have he : (H.setIfInBounds a cn)[a]? = some cn := by simp [Array.getElem?_setIfInBounds, hl]
  have hR1 : Rh g (sAL h a (va_cpy (aL h a0) (aL h a) i j w)) (H.setIfInBounds a cn) := hR.set (e := .inl (g.2.2.1 22, hN h a, .inr (.inl (va_cpy (aL h a0) (aL h a) i j w)))) (by omega : hK h a ≠ 0) (by
    show (H.setIfInBounds a cn)[a]? = some (vp_cell _ _)
    rw [he, ← hcn]
    rfl) hz1 oq (cell_sAL hk) rfl rfl rfl
  have hheap : ((T.setVm vm').setCell a cn).heap = H.setIfInBounds a cn := by rw [← hT]; rfl
  obtain ⟨t, a1, b1⟩ := W.cs (cells' := cells + (hz (sAL h a (va_cpy (aL h a0) (aL h a) i j w)) - hz h)) (slots' := slots + (hs (sAL h a (va_cpy (aL h a0) (aL h a) i j w)) - hs h)) (by show cells = cells + (hz h - hz h); omega) (by show slots = slots + (hs h - hs h); omega) (kk _ _ hR1 ⟨by rw [hz1]; exact hS.1, fun q g1 g2 => by
      rw [oq q (fun e => g2 (by rw [e]; exact hA))]
      exact hS.2.1 q g1 g2, fun q hq => by
      rcases List.mem_append.mp hq with h | h
      · exact hS.2.2 q h
      · obtain ⟨z, -, hz⟩ := List.mem_map.mp h
        rw [← hz]
        exact hA⟩ (fun q _ hq => oq q (fun e => hq (by rw [e]; exact hR.2.2.2 a (by omega))))) _ hheap X'
  exact ⟨t, step t a1, b1⟩
/-- a copy among rows of Object, of objects of one class -/
theorem v_copyP {idx a0 a ci N : Nat} {C : String} {T : u_T} {ty : Nat → FieldType} {sp dp n : Int32} (i j w : Nat) (hd : decode Y.2.1 pc = .ok (.invokestatic idx, 3)) (hq : pc + 3 = q) (hw : cpW Y.1.cls idx) (hd1 : 1 ≤ d) (hk0 : hK h a0 = 27) (hk : hK h a = 27) (e1 : sp = nI i) (e2 : dp = nI j) (e3 : n = nI w) (h4 : i + w ≤ hN h a0) (h5 : j + w ≤ hN h a) (h6 : hN h a0 < 2147483648) (h7 : hN h a < 2147483648) (hcl : CL ci C T N ty) (hca : Cond.castable C "java/lang/Object" ∈ tbN) (hel : ∀ x, x < w → ∀ y, aP h a0 (i + x) = some y → hK h y = ci + 1) (hr : (st.map fun v => v.category).sum ≤ 8)
    (k : V g Y d q ls st (sAP h a (va_cpy (aP h a0) (aP h a) i j w)) Q) : V g Y d pc ls (.int n :: .int dp :: .ref a :: .int sp :: .ref a0 :: st) h Q := by
  subst hq
  have c1 : sp.toNatClampNeg = i := by rw [e1]; exact nI_clamp (by omega)
  have c2 : dp.toNatClampNeg = j := by rw [e2]; exact nI_clamp (by omega)
  have c3 : n.toNatClampNeg = w := by rw [e3]; exact nI_clamp (by omega)
  have p1 : ¬ sp < 0 := by rw [e1]; exact nI_pos (by omega)
  have p2 : ¬ dp < 0 := by rw [e2]; exact nI_pos (by omega)
  have p3 : ¬ n < 0 := by rw [e3]; exact nI_pos (by omega)
  refine V.move (h1 := sAP h a (va_cpy (aP h a0) (aP h a) i j w)) (Ext.rf h) (fun p e R s m args below meth c H locs cells slots arr Qf hC hR hS hL hc hsl kk => ?_) k
  obtain ⟨x1, x2, x3, x4, x5, x6, x7, x8, x9, x10, x11⟩ := id hC
  have hc0 := hR.cellP hk0 (by omega)
  have hc1 := hR.cellP hk (by omega)
  have hA : gA g a := (hR.lt (by omega : hK h a ≠ 0)).2
  obtain ⟨-, k1, hk1, cm1, hkk1⟩ := (hC.kn.arr (k := 27) (by omega) (by omega)).1 0 (fun _ => .null)
  obtain ⟨kA, comp, r1, r2, r3, -⟩ := (hC.kn.arr (k := 27) (by omega) (by omega)).2
  have hk1' : s.vm.classes[g.2.2.1 27]? = some k1 := hk1
  cases hk1'.symm.trans r1
  cases hkk1.symm.trans r2
  have hcls := (hC.kn.2.1.1 ci _ hcl.1).2
  have has : s.vm.assignable (g.2.1.1 ci) cm1 = true := by
    obtain ⟨c0, t1, f1, f2, f3⟩ := Cond.castable_spec (hC.kn.1 _ hca)
    cases hcls.1.symm.trans f1
    cases r3.symm.trans f2
    exact f3
  intro T0 hT X
  obtain ⟨vm', X', step⟩ := X.arraycopy x1 x6 (x5 _ hw.1) (x5 _ hw.2.1) (x5 _ hw.2.2.1) (x5 _ hw.2.2.2) (src := a0) (dst := a) (cs := arrV (g.2.2.1 27) (hN h a0) (fun j => va_rf (aP h a0 j))) (cd := arrV (g.2.2.1 27) (hN h a) (fun j => va_rf (aP h a j))) (srcPos := sp) (destPos := dp) (n := n) (by rw [hT]; exact hc0) (by rw [hT]; exact hc1)
    (fun _ h => by cases h) (fun _ h => by cases h) (fun h => by cases h) (fun h => by cases h) hk1 hk1 hkk1 hkk1 rfl p1 p2 p3
    (by rw [nn_toInt sp p1, nn_toInt n p3, arrV_size]; omega)
    (by rw [nn_toInt dp p2, nn_toInt n p3, arrV_size]; omega)
    (fun vm₁ hal i' hi => by
      have e : (arrV (g.2.2.1 27) (hN h a0) (fun j => va_rf (aP h a0 j))).slots.getD (sp.toNatClampNeg + i') .null = va_rf (aP h a0 (sp.toNatClampNeg + i')) := by
        rw [Array.getD_eq_getD_getElem?, arrV_read _ _ (by omega)]
        rfl
      rw [e, c1]
      cases hy : aP h a0 (i + i') with
      | none => exact ⟨rfl, trivial⟩
      | some y =>
        obtain ⟨q0, he⟩ := hR.obj (hel i' (by omega) y hy) hcl.2.2.2.2.2.1
        obtain ⟨r', hr', cellV, g1, g2, g3, -⟩ := hR.2.1 q0 _ he
        obtain ⟨kC, hkC, -⟩ := hcls.2
        obtain ⟨kE, hkE, -⟩ := Vm.findClass_spec r3
        obtain ⟨kC', hkC', -⟩ := hal.2.2 _ _ hkC
        obtain ⟨kE', hkE', -⟩ := hal.2.2 _ _ hkE
        refine ⟨rfl, cellV, (show T0.heap[y]? = some cellV by rw [hT]; exact g1), (fun q h => by rw [g3] at h; cases h), ⟨kC', by rw [g2]; exact hkC'⟩, ?_, ?_⟩
        · exact ⟨kE', hkE'⟩
        · show vm₁.assignable _ _ = true
          rw [hal.assignable, g2]
          exact has)
    (g := F0 m pc arr (.int n :: .int dp :: .ref a :: .int sp :: .ref a0 :: st)) rfl (by rw [x4]; exact hL.1) (rest := st) rfl (by rw [x2]; exact hd) (by omega) (by rw [nfw]; show 2 * 0 + _ + (7 + 11) ≤ R.locals; omega)
  have e7 : copied (arrV (g.2.2.1 27) (hN h a0) (fun j => va_rf (aP h a0 j))) (arrV (g.2.2.1 27) (hN h a) (fun j => va_rf (aP h a j))) sp dp n = arrV (g.2.2.1 27) (hN h a) (fun x => va_rf (va_cpy (aP h a0) (aP h a) sp.toNatClampNeg dp.toNatClampNeg n.toNatClampNeg x)) := va_copied (fun z => va_rf z) _ _ _ _ (by omega)
  rw [e7, c1, c2, c3] at X' step
  have hl : a < H.size := (Array.getElem?_eq_some_iff.mp hc1).1
  generalize hcn : arrV (g.2.2.1 27) (hN h a) (fun x => va_rf (va_cpy (aP h a0) (aP h a) i j w x)) = cn at X' step
  have oq : ∀ q : Nat, q ≠ a → (H.setIfInBounds a cn)[q]? = H[q]? := fun q hq => by simp [Array.getElem?_setIfInBounds, Ne.symm hq]
  have hz1 : (H.setIfInBounds a cn).size = H.size := by simp
  have he : (H.setIfInBounds a cn)[a]? = some cn := by simp [Array.getElem?_setIfInBounds, hl]
  have hR1 : Rh g (sAP h a (va_cpy (aP h a0) (aP h a) i j w)) (H.setIfInBounds a cn) := hR.set (e := .inl (g.2.2.1 27, hN h a, .inr (.inr (.inr (.inr (va_cpy (aP h a0) (aP h a) i j w)))))) (by omega : hK h a ≠ 0) (by
    show (H.setIfInBounds a cn)[a]? = some (vp_cell _ _)
    rw [he, ← hcn]
    rfl) hz1 oq (cell_sAP hk (by omega)) rfl rfl rfl
  have hheap : ((T0.setVm vm').setCell a cn).heap = H.setIfInBounds a cn := by rw [← hT]; rfl
  obtain ⟨t, a1, b1⟩ := W.cs (cells' := cells + (hz (sAP h a (va_cpy (aP h a0) (aP h a) i j w)) - hz h)) (slots' := slots + (hs (sAP h a (va_cpy (aP h a0) (aP h a) i j w)) - hs h)) (by show cells = cells + (hz h - hz h); omega) (by show slots = slots + (hs h - hs h); omega) (kk _ _ hR1 ⟨by rw [hz1]; exact hS.1, fun q g1 g2 => by
      rw [oq q (fun e => g2 (by rw [e]; exact hA))]
      exact hS.2.1 q g1 g2, fun q hq => by
      rcases List.mem_append.mp hq with h | h
      · exact hS.2.2 q h
      · obtain ⟨z, -, hz⟩ := List.mem_map.mp h
        rw [← hz]
        exact hA⟩ (fun q _ hq => oq q (fun e => hq (by rw [e]; exact hR.2.2.2 a (by omega))))) _ hheap X'
  exact ⟨t, step t a1, b1⟩
theorem v_ldcM {idx : Nat} (hd : decode Y.2.1 pc = .ok (.ldc idx, 2)) (hq : pc + 2 = q) (hw : Cond.classLink Y.1.cls idx "[Ljava/lang/Object;" ∈ tb) (k : V g Y d q ls (.ref g.2.2.2.2.2.1 :: st) h Q) : V g Y d pc ls st h Q := by
  subst hq
  exact V.step (fun p e R s m args below meth c H locs cells slots arr Qf hC hR hS hL kk => va_ldcM hC.1 hC.2.1 hC.own (hC.ts _ hw) hC.kn.2.2.2.2.2.2.2.1 hd (kk arr hL)) k
theorem v_getC {idx a : Nat} (hd : decode Y.2.1 pc = .ok (.invokevirtual idx, 3)) (hq : pc + 3 = q) (hd1 : 1 ≤ d) (w1 : Cond.methodLink Y.1.cls idx ⟨"java/lang/Object", "getClass", "()Ljava/lang/Class;"⟩ ∈ tb) (w2 : Cond.declares ⟨"java/lang/Object", "getClass", "()Ljava/lang/Class;"⟩ ∈ tbN) (w3 : Cond.selects "[Ljava/lang/Object;" ⟨"java/lang/Object", "getClass", "()Ljava/lang/Class;"⟩ ⟨"java/lang/Object", "getClass", "()Ljava/lang/Class;"⟩ ∈ tb) (w4 : Cond.instanceMethod ⟨"java/lang/Object", "getClass", "()Ljava/lang/Class;"⟩ ∈ tb) (w5 : Cond.native ⟨"java/lang/Object", "getClass", "()Ljava/lang/Class;"⟩ ∈ tb) (hk : hK h a = 27) (hr : (st.map fun v => v.category).sum ≤ 8) (k : V g Y d q ls (.ref g.2.2.2.2.2.1 :: st) h Q) : V g Y d pc ls (.ref a :: st) h Q := by
  subst hq
  refine V.step (fun p e R s m args below meth c H locs cells slots arr Qf hC hR hS hL kk => ?_) k
  obtain ⟨x1, x2, x3, x4, x5, x6, x7, x8, x9, x10, x11⟩ := id hC
  obtain ⟨-, -, -, -, -, rn⟩ := (hC.kn.arr (k := 27) (by omega) (by omega)).2
  exact va_getC x1 x2 (by rw [x4]; exact hL.1.symm) x6 (x5 _ w1) (va_Dc.use (hC.kn.1 _ w2)) (x5 _ w3) (x5 _ w4) (x5 _ w5) hC.kn.2.2.2.2.2.2.2.1 ⟨_, hR.cellP hk (by omega), rfl, rn⟩ (by omega) (by omega) hd (kk arr hL)
end R10
