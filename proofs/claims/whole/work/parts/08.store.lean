/-! 08: writes of rows, copies of rows, casts, Object's constructor -/
section R8
variable {g : Gl} {Y : Mth} {d pc q : Nat} {ls st : List Value} {h h1 : Hp} {Q : Option Value → Hp → Prop} {H H1 : Heap}
theorem cell_sAI {a : Nat} {r : Nat → Int32} (hk : hK h a = 21 ∨ hK h a = 23) (b : Nat) : va_up (cellOf g h) a (.inl (g.2.2.1 (hK h a), hN h a, .inl r)) b = cellOf g (sAI h a r) b := by
  by_cases hb : b = a
  · subst hb
    rw [va_up_self]
    have e5 : aI (sAI h b r) b = r := by simp [sAI, aI, upR]
    unfold cellOf
    rw [show hK (sAI h b r) b = hK h b from rfl, show hN (sAI h b r) b = hN h b from rfl, e5, if_neg (by omega), if_pos hk]
  · rw [va_up_ne _ _ hb]
    have e5 : aI (sAI h a r) b = aI h b := by simp [sAI, aI, upR, hb]
    unfold cellOf
    rw [e5]
    rfl
theorem cell_sAL {a : Nat} {r : Nat → Int64} (hk : hK h a = 22) (b : Nat) : va_up (cellOf g h) a (.inl (g.2.2.1 22, hN h a, .inr (.inl r))) b = cellOf g (sAL h a r) b := by
  by_cases hb : b = a
  · subst hb
    rw [va_up_self]
    have e5 : aL (sAL h b r) b = r := by simp [sAL, aL, upR]
    rw [cellOf_L (h := sAL h b r) hk, e5]
    rfl
  · rw [va_up_ne _ _ hb]
    have e5 : aL (sAL h a r) b = aL h b := by simp [sAL, aL, upR, hb]
    unfold cellOf
    rw [e5]
    rfl
theorem cell_sAP {a k : Nat} {r : Nat → Option Nat} (hk : hK h a = k) (h24 : 24 ≤ k) (b : Nat) : va_up (cellOf g h) a (.inl (g.2.2.1 k, hN h a, .inr (.inr (.inr (.inr r))))) b = cellOf g (sAP h a r) b := by
  by_cases hb : b = a
  · subst hb
    rw [va_up_self]
    have e5 : aP (sAP h b r) b = r := by simp [sAP, aP, upR]
    rw [cellOf_P (h := sAP h b r) hk h24, e5]
    rfl
  · rw [va_up_ne _ _ hb]
    have e5 : aP (sAP h a r) b = aP h b := by simp [sAP, aP, upR, hb]
    unfold cellOf
    rw [e5]
    rfl
theorem arrV_upI (c : ClassId) (n j : Nat) (f : Nat → Int32) (x : Int32) : (arrV c n (fun j => .int (f j))).setSlot j (.int x) = arrV c n (fun i => .int (upd f j x i)) := by
  rw [arrV_store]
  congr 1
  funext i
  by_cases hi : i = j <;> simp [updV, upd, hi]
theorem arrV_upL (c : ClassId) (n j : Nat) (f : Nat → Int64) (x : Int64) : (arrV c n (fun j => .long (f j))).setSlot j (.long x) = arrV c n (fun i => .long (vp_updL f j x i)) := by
  rw [arrV_store]
  congr 1
  funext i
  by_cases hi : i = j <;> simp [updV, vp_updL, hi]
theorem arrV_upP (c : ClassId) (n j : Nat) (f : Nat → Option Nat) (x : Option Nat) : (arrV c n (fun j => va_rf (f j))).setSlot j (va_rf x) = arrV c n (fun i => va_rf (va_up f j x i)) := by
  rw [arrV_store]
  congr 1
  funext i
  by_cases hi : i = j <;> simp [updV, va_up, hi]
theorem v_iast {i x : Int32} {a : Nat} (j : Nat) (hd : decode Y.2.1 pc = .ok (.iastore, 1)) (hq : pc + 1 = q) (hk : hK h a = 21) (hi : i = nI j) (hj : j < hN h a) (hn : hN h a < 2147483648) (k : V g Y d q ls st (sAI h a (upd (aI h a) j x)) Q) : V g Y d pc ls (.int x :: .int i :: .ref a :: st) h Q := by
  subst hq
  refine V.move (h1 := sAI h a (upd (aI h a) j x)) (Ext.rf h) (fun p e R s m args below meth c H locs cells slots arr Qf hC hR hS hL hc hsl kk => ?_) k
  have hc := hR.cellI (Or.inl hk)
  rw [hk] at hc
  have hA : gA g a := (hR.lt (by omega : hK h a ≠ 0)).2
  refine W.iast hC.1 hC.2.1 hc ((hC.kn.arr (k := 21) (by omega) (by omega)).1 _ _) (fun q => by cases q) (in_of hi hj hn _ _) rfl rfl hd fun H1 e4 e5 e6 => ?_
  rw [cl_of hi hj hn] at e4 ⊢
  rw [arrV_upI] at e4
  refine W.cs (by show cells = cells + (hz h - hz h); omega) (by show slots = slots + (hs h - hs h); omega) (kk H1 _ (hR.set (e := .inl (g.2.2.1 (hK h a), hN h a, .inl (upd (aI h a) j x))) (by omega : hK h a ≠ 0) ?_ e5 e6 (cell_sAI (Or.inl hk)) rfl rfl rfl) (hS.put e5 e6 hA) (fun q _ hq => e6 q (fun e => hq (by rw [e]; exact hR.2.2.2 a (by omega)))))
  rw [hk]
  exact e4
theorem v_zast {i x : Int32} {a : Nat} (j : Nat) (hd : decode Y.2.1 pc = .ok (.bastore, 1)) (hq : pc + 1 = q) (hk : hK h a = 23) (hi : i = nI j) (hj : j < hN h a) (hn : hN h a < 2147483648) (hx : narrow .boolean (.int x) = .int x) (k : V g Y d q ls st (sAI h a (upd (aI h a) j x)) Q) : V g Y d pc ls (.int x :: .int i :: .ref a :: st) h Q := by
  subst hq
  refine V.move (h1 := sAI h a (upd (aI h a) j x)) (Ext.rf h) (fun p e R s m args below meth c H locs cells slots arr Qf hC hR hS hL hc hsl kk => ?_) k
  have hc := hR.cellI (Or.inr hk)
  rw [hk] at hc
  have hA : gA g a := (hR.lt (by omega : hK h a ≠ 0)).2
  refine W.zast hC.1 hC.2.1 hc ((hC.kn.arr (k := 23) (by omega) (by omega)).1 _ _) (fun q => by cases q) (in_of hi hj hn _ _) rfl rfl hd fun H1 e4 e5 e6 => ?_
  rw [cl_of hi hj hn] at e4 ⊢
  rw [hx, arrV_upI] at e4
  refine W.cs (by show cells = cells + (hz h - hz h); omega) (by show slots = slots + (hs h - hs h); omega) (kk H1 _ (hR.set (e := .inl (g.2.2.1 (hK h a), hN h a, .inl (upd (aI h a) j x))) (by omega : hK h a ≠ 0) ?_ e5 e6 (cell_sAI (Or.inr hk)) rfl rfl rfl) (hS.put e5 e6 hA) (fun q _ hq => e6 q (fun e => hq (by rw [e]; exact hR.2.2.2 a (by omega)))))
  rw [hk]
  exact e4
theorem v_last {i : Int32} {x : Int64} {a : Nat} (j : Nat) (hd : decode Y.2.1 pc = .ok (.lastore, 1)) (hq : pc + 1 = q) (hk : hK h a = 22) (hi : i = nI j) (hj : j < hN h a) (hn : hN h a < 2147483648) (k : V g Y d q ls st (sAL h a (vp_updL (aL h a) j x)) Q) : V g Y d pc ls (.long x :: .int i :: .ref a :: st) h Q := by
  subst hq
  refine V.move (h1 := sAL h a (vp_updL (aL h a) j x)) (Ext.rf h) (fun p e R s m args below meth c H locs cells slots arr Qf hC hR hS hL hc hsl kk => ?_) k
  have hc := hR.cellL hk
  have hA : gA g a := (hR.lt (by omega : hK h a ≠ 0)).2
  refine W.last hC.1 hC.2.1 hc ((hC.kn.arr (k := 22) (by omega) (by omega)).1 _ _) (fun q => by cases q) (in_of hi hj hn _ _) rfl rfl hd fun H1 e4 e5 e6 => ?_
  rw [cl_of hi hj hn] at e4 ⊢
  rw [arrV_upL] at e4
  exact W.cs (by show cells = cells + (hz h - hz h); omega) (by show slots = slots + (hs h - hs h); omega) (kk H1 _ (hR.set (e := .inl (g.2.2.1 22, hN h a, .inr (.inl (vp_updL (aL h a) j x)))) (by omega : hK h a ≠ 0) e4 e5 e6 (cell_sAL hk) rfl rfl rfl) (hS.put e5 e6 hA) (fun q _ hq => e6 q (fun e => hq (by rw [e]; exact hR.2.2.2 a (by omega)))))
/-- a null into a row of objects -/
theorem v_aastN {i : Int32} {a kk0 : Nat} (j : Nat) (hd : decode Y.2.1 pc = .ok (.aastore, 1)) (hq : pc + 1 = q) (hk : hK h a = kk0 ∧ 24 ≤ kk0 ∧ kk0 ≤ 27) (hi : i = nI j) (hj : j < hN h a) (hn : hN h a < 2147483648) (k : V g Y d q ls st (sAP h a (va_up (aP h a) j none)) Q) : V g Y d pc ls (.null :: .int i :: .ref a :: st) h Q := by
  subst hq
  obtain ⟨hk, k1, k2⟩ := hk
  refine V.move (h1 := sAP h a (va_up (aP h a) j none)) (Ext.rf h) (fun p e R s m args below meth c H locs cells slots arr Qf hC hR hS hL hc hsl kk => ?_) k
  have hc := hR.cellP hk k1
  have hA : gA g a := (hR.lt (by omega : hK h a ≠ 0)).2
  obtain ⟨C, hty⟩ : ∃ C, aty kk0 = .object C := by
    rcases (show kk0 = 24 ∨ kk0 = 25 ∨ kk0 = 26 ∨ kk0 = 27 by omega) with rfl | rfl | rfl | rfl <;> exact ⟨_, rfl⟩
  have hAr := (hC.kn.arr (k := kk0) (by omega) (by omega)).1
  rw [hty] at hAr
  refine va_WaastN hC.1 hC.2.1 hc (hAr _ _) (fun q => by cases q) (in_of hi hj hn _ _) rfl rfl hd fun H1 e4 e5 e6 => ?_
  rw [cl_of hi hj hn] at e4 ⊢
  have e7 := e4.trans (congrArg some (arrV_upP (g.2.2.1 kk0) (hN h a) j (aP h a) none))
  exact W.cs (by show cells = cells + (hz h - hz h); omega) (by show slots = slots + (hs h - hs h); omega) (kk H1 _ (hR.set (e := .inl (g.2.2.1 kk0, hN h a, .inr (.inr (.inr (.inr (va_up (aP h a) j none)))))) (by omega : hK h a ≠ 0) e7 e5 e6 (cell_sAP hk k1) rfl rfl rfl) (hS.put e5 e6 hA) (fun q _ hq => e6 q (fun e => hq (by rw [e]; exact hR.2.2.2 a (by omega)))))
/-- may an object of class ci stand in a row of kind k? -/
def AsO (ci k : Nat) : Prop := ∃ (C : String) (T : u_T) (N : Nat) (ty : Nat → FieldType) (E : String), CL ci C T N ty ∧ aty k = .object E ∧ 24 ≤ k ∧ k ≤ 27 ∧ (C = E ∨ Cond.castable C E ∈ tbN)
theorem v_aast {i : Int32} {a b ci kk0 : Nat} (j : Nat) (hd : decode Y.2.1 pc = .ok (.aastore, 1)) (hq : pc + 1 = q) (hk : hK h a = kk0) (hA0 : AsO ci kk0) (hb : hK h b = ci + 1) (hi : i = nI j) (hj : j < hN h a) (hn : hN h a < 2147483648) (k : V g Y d q ls st (sAP h a (va_up (aP h a) j (some b))) Q) : V g Y d pc ls (.ref b :: .int i :: .ref a :: st) h Q := by
  subst hq
  obtain ⟨C, T, N, ty, E, ⟨c1, c2, c3, c4, c5, c6, c7, c8⟩, hty, k1, k2, hcast⟩ := hA0
  refine V.move (h1 := sAP h a (va_up (aP h a) j (some b))) (Ext.rf h) (fun p e R s m args below meth c H locs cells slots arr Qf hC hR hS hL hc hsl kk => ?_) k
  have hc := hR.cellP hk k1
  have hA : gA g a := (hR.lt (by omega : hK h a ≠ 0)).2
  have hRA := (hC.kn.arr (k := kk0) (by omega) (by omega)).2
  rw [hty] at hRA
  obtain ⟨kA, comp, m1, m2, m3, -⟩ := hRA
  obtain ⟨kE, hkE, -⟩ := Vm.findClass_spec m3
  obtain ⟨q0, he⟩ := hR.obj hb c6
  obtain ⟨r', hr', cellV, g1, g2, g3, -⟩ := hR.2.1 q0 _ he
  have hcls := (hC.kn.2.1.1 ci _ c1).2
  have has : s.vm.assignable (g.2.1.1 ci) comp = true := by
    rcases hcast with e | hw
    · subst e
      have : comp = g.2.1.1 ci := Option.some.inj (m3.symm.trans hcls.1)
      rw [this]
      exact va_assign hcls
    · obtain ⟨c0, t1, f1, f2, f3⟩ := Cond.castable_spec (hC.kn.1 _ hw)
      cases hcls.1.symm.trans f1
      cases m3.symm.trans f2
      exact f3
  obtain ⟨kC, hkC, -⟩ := hcls.2
  have hin := in_of hi hj hn (g.2.2.1 kk0) (fun j => va_rf (aP h a j))
  refine W.aast hC.1 hC.2.1 hc (fun q h => by cases h) (fun h => by cases h) m1 m2 rfl hkE ⟨fun q => hin (Or.inl q), Nat.not_le.mp fun q => hin (Or.inr q)⟩ g1 (fun q h => by rw [g3] at h; cases h) (by rw [g2]; exact hkC) (by rw [g2]; exact has) rfl rfl hd fun H1 e4 e5 e6 => ?_
  rw [cl_of hi hj hn] at e4 ⊢
  have e7 := e4.trans (congrArg some (arrV_upP (g.2.2.1 kk0) (hN h a) j (aP h a) (some b)))
  exact W.cs (by show cells = cells + (hz h - hz h); omega) (by show slots = slots + (hs h - hs h); omega) (kk H1 _ (hR.set (e := .inl (g.2.2.1 kk0, hN h a, .inr (.inr (.inr (.inr (va_up (aP h a) j (some b))))))) (by omega : hK h a ≠ 0) e7 e5 e6 (cell_sAP hk k1) rfl rfl rfl) (hS.put e5 e6 hA) (fun q _ hq => e6 q (fun e => hq (by rw [e]; exact hR.2.2.2 a (by omega)))))
/-- a row of longs into a row of such rows -/
theorem v_aastA {i : Int32} {a b : Nat} (j : Nat) (hd : decode Y.2.1 pc = .ok (.aastore, 1)) (hq : pc + 1 = q) (hk : hK h a = 28) (hw : Cond.arrayOver (.array .long) ∈ tbN) (hb : hK h b = 22) (hi : i = nI j) (hj : j < hN h a) (hn : hN h a < 2147483648) (k : V g Y d q ls st (sAP h a (va_up (aP h a) j (some b))) Q) : V g Y d pc ls (.ref b :: .int i :: .ref a :: st) h Q := by
  subst hq
  refine V.move (h1 := sAP h a (va_up (aP h a) j (some b))) (Ext.rf h) (fun p e R s m args below meth c H locs cells slots arr Qf hC hR hS hL hc hsl kk => ?_) k
  have hc := hR.cellP hk (by omega)
  have hA : gA g a := (hR.lt (by omega : hK h a ≠ 0)).2
  have hcb := hR.cellL hb
  have h28 : s.vm.findClass ("[" ++ (FieldType.array .long).toString) = some (g.2.2.1 28) := (hC.kn.arr (k := 28) (by omega) (by omega)).2
  have h22 : s.vm.findClass ("[" ++ FieldType.long.toString) = some (g.2.2.1 22) := (hC.kn.arr (k := 22) (by omega) (by omega)).2
  obtain ⟨kA, hkA, hkind⟩ : ∃ kA : Class, s.vm.classes[g.2.2.1 28]? = some kA ∧ kA.kind = .array (g.2.2.1 22) (.array .long) := by
    have h0 := hC.kn.1 _ hw
    unfold Cond.before Cond.holds at h0
    simp only [Cond.value, beq_iff_eq] at h0
    have h22' : s.vm.findClass (FieldType.array .long).toString = some (g.2.2.1 22) := h22
    rw [h22'] at h0
    simp only [Option.bind_some, Option.bind_eq_some_iff, Option.map_eq_some_iff] at h0
    obtain ⟨c, hi, kA, hkA, hb⟩ := h0
    obtain ⟨hlt, hp, -⟩ := Array.findIdx?_eq_some_iff_getElem.mp hi
    have hkk : s.vm.classes[c] = kA := (Array.getElem?_eq_some_iff.mp hkA).2
    rw [hkk] at hp
    cases hkind : kA.kind with
    | array component ty =>
      rw [hkind] at hb hp
      simp at hb hp
      have hc28 : c = g.2.2.1 28 := Option.some.inj (hb.2.symm.trans h28)
      subst hc28
      exact ⟨kA, hkA, by rw [hkind, hp, hb.1]⟩
    | _ => rw [hkind] at hb; simp at hb
  obtain ⟨-, kL, hkL, cmp, hkL2⟩ := (hC.kn.arr (k := 22) (by omega) (by omega)).1 0 (fun _ => .null)
  have has : s.vm.assignable (g.2.2.1 22) (g.2.2.1 22) = true := by
    unfold Vm.assignable Vm.assignableAux
    rw [beq_self_eq_true, Bool.true_or]
  have hin := in_of hi hj hn (g.2.2.1 28) (fun j => va_rf (aP h a j))
  refine W.aast hC.1 hC.2.1 hc (fun q h => by cases h) (fun h => by cases h) hkA hkind rfl hkL ⟨fun q => hin (Or.inl q), Nat.not_le.mp fun q => hin (Or.inr q)⟩ hcb (fun q h => by cases h) hkL has rfl rfl hd fun H1 e4 e5 e6 => ?_
  rw [cl_of hi hj hn] at e4 ⊢
  have e7 := e4.trans (congrArg some (arrV_upP (g.2.2.1 28) (hN h a) j (aP h a) (some b)))
  exact W.cs (by show cells = cells + (hz h - hz h); omega) (by show slots = slots + (hs h - hs h); omega) (kk H1 _ (hR.set (e := .inl (g.2.2.1 28, hN h a, .inr (.inr (.inr (.inr (va_up (aP h a) j (some b))))))) (by omega : hK h a ≠ 0) e7 e5 e6 (cell_sAP hk (by omega)) rfl rfl rfl) (hS.put e5 e6 hA) (fun q _ hq => e6 q (fun e => hq (by rw [e]; exact hR.2.2.2 a (by omega)))))
theorem Rh.recv {s : State} (hR : Rh g h H) (hKn : Kn g s) {a ci N : Nat} {C : String} {T : u_T} {ty : Nat → FieldType} (hk : hK h a = ci + 1) (hcl : CL ci C T N ty) : ∃ cell : Cell, H[a]? = some cell ∧ cell.vm.isStatics = false ∧ s.vm.findClass C = some cell.cls := by
  obtain ⟨q0, he⟩ := hR.obj hk hcl.2.2.2.2.2.1
  exact va_recv hKn.2.1 hR.2.1 hcl.1 he
/-- casts of null, of an object of the very class, of a class that may be cast -/
theorem v_castN {idx : Nat} (hd : decode Y.2.1 pc = .ok (.checkcast idx, 3)) (hq : pc + 3 = q) (k : V g Y d q ls (.null :: st) h Q) : V g Y d pc ls (.null :: st) h Q := by
  subst hq
  exact V.step (fun p e R s m args below meth c H locs cells slots arr Qf hC hR hS hL kk => lv_castN hC.1 hC.2.1 hd (kk arr hL)) k
theorem v_cast {idx a ci N : Nat} {C : String} {T : u_T} {ty : Nat → FieldType} (hd : decode Y.2.1 pc = .ok (.checkcast idx, 3)) (hq : pc + 3 = q) (hcl : CL ci C T N ty) (hw : Cond.classLink Y.1.cls idx C ∈ tb) (hk : hK h a = ci + 1) (k : V g Y d q ls (.ref a :: st) h Q) : V g Y d pc ls (.ref a :: st) h Q := by
  subst hq
  exact V.step (fun p e R s m args below meth c H locs cells slots arr Qf hC hR hS hL kk => va_castS hC.1 hC.2.1 hC.own (hC.ts _ hw) (hC.kn.2.1.1 ci _ hcl.1).2 (hR.recv hC.kn hk hcl) hd (kk arr hL)) k
theorem v_castY {idx a ci N : Nat} {C nm : String} {T : u_T} {ty : Nat → FieldType} (hd : decode Y.2.1 pc = .ok (.checkcast idx, 3)) (hq : pc + 3 = q) (hcl : CL ci C T N ty) (hw : Cond.classLink Y.1.cls idx nm ∈ tb) (hw2 : Cond.castable C nm ∈ tbN) (hk : hK h a = ci + 1) (k : V g Y d q ls (.ref a :: st) h Q) : V g Y d pc ls (.ref a :: st) h Q := by
  subst hq
  exact V.step (fun p e R s m args below meth c H locs cells slots arr Qf hC hR hS hL kk => va_castY hC.1 hC.2.1 hC.own (hC.ts _ hw) (hC.kn.1 _ hw2) (hR.recv hC.kn hk hcl) hd (kk arr hL)) k
theorem v_instN {idx : Nat} (hd : decode Y.2.1 pc = .ok (.instanceof idx, 3)) (hq : pc + 3 = q) (k : V g Y d q ls (.int 0 :: st) h Q) : V g Y d pc ls (.null :: st) h Q := by
  subst hq
  exact V.step (fun p e R s m args below meth c H locs cells slots arr Qf hC hR hS hL kk => lv_instN hC.1 hC.2.1 hd (kk arr hL)) k
theorem v_inst {idx a ci N : Nat} {C : String} {T : u_T} {ty : Nat → FieldType} (hd : decode Y.2.1 pc = .ok (.instanceof idx, 3)) (hq : pc + 3 = q) (hcl : CL ci C T N ty) (hw : Cond.classLink Y.1.cls idx C ∈ tb) (hk : hK h a = ci + 1) (k : V g Y d q ls (.int 1 :: st) h Q) : V g Y d pc ls (.ref a :: st) h Q := by
  subst hq
  exact V.step (fun p e R s m args below meth c H locs cells slots arr Qf hC hR hS hL kk => va_instS hC.1 hC.2.1 hC.own (hC.ts _ hw) (hC.kn.2.1.1 ci _ hcl.1).2 (hR.recv hC.kn hk hcl) hd (kk arr hL)) k
theorem v_instNo {idx a ci N : Nat} {C nm : String} {T : u_T} {ty : Nat → FieldType} (hd : decode Y.2.1 pc = .ok (.instanceof idx, 3)) (hq : pc + 3 = q) (hcl : CL ci C T N ty) (hw : Cond.classLink Y.1.cls idx nm ∈ tb) (hw2 : (C, nm) ∈ ncs) (hk : hK h a = ci + 1) (k : V g Y d q ls (.int 0 :: st) h Q) : V g Y d pc ls (.ref a :: st) h Q := by
  subst hq
  exact V.step (fun p e R s m args below meth c H locs cells slots arr Qf hC hR hS hL kk => va_instNo hC.1 hC.2.1 hC.own (hC.ts _ hw) (hC.kn.2.2.1 _ hw2) (hR.recv hC.kn hk hcl) hd (kk arr hL)) k
theorem v_objInit {idx a : Nat} (hd : decode Y.2.1 pc = .ok (.invokespecial idx, 3)) (hq : pc + 3 = q) (h0 : 1 ≤ d) (w1 : Cond.methodLink Y.1.cls idx objectInit ∈ tb) (w2 : Cond.instanceMethod objectInit ∈ tb) (w3 : Cond.code objectInit ⟨#[0xb1]⟩ 1 none ∈ tb) (hst : (st.map fun v => v.category).sum ≤ 8) (k : V g Y d q ls st h Q) : V g Y d pc ls (.ref a :: st) h Q := by
  subst hq
  refine V.step (fun p e R s m args below meth c H locs cells slots arr Qf hC hR hS hL kk => ?_) k
  obtain ⟨x1, x2, x3, x4, x5, x6, x7, x8, x9, x10, x11⟩ := id hC
  exact W.objInit x1 x2 x6 (x5 _ w1) (x5 _ w2) (x5 _ w3) rfl (by rw [x4]; exact hL.1) rfl hd (by omega) (by show 2 * 0 + _ + 12 ≤ R.locals; omega) (kk arr hL)
end R8
