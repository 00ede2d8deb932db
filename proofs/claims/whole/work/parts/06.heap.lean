/-! 06: fields: reads and writes -/
/-- entry idx of own's pool names field k of the class with the table T -/
def LF (own : String) (idx : Nat) (T : u_T) (k : Nat) : Prop := ∃ ref : String, Cond.fieldLink own idx ref (T k).2.1 (T k).2.2.1 ∈ tb ∧ (ref = (T k).1 ∨ Cond.sameField ref (T k).1 (T k).2.1 (T k).2.2.1 ∈ tb)
/-- .. which is field number f, of type tc, of class ci -/
def GF (own : String) (idx ci f tc : Nat) : Prop := ∃ (C : String) (T : u_T) (N : Nat) (ty : Nat → FieldType) (k : Nat), CL ci C T N ty ∧ k < N ∧ (cfl ci)[k]? = some (tc, f) ∧ LF own idx T k
def PF (own : String) (idx ci f tc : Nat) (ty0 : FieldType) : Prop := ∃ (C : String) (T : u_T) (N : Nat) (ty : Nat → FieldType) (k : Nat), CL ci C T N ty ∧ k < N ∧ (cfl ci)[k]? = some (tc, f) ∧ LF own idx T k ∧ (T k).2.2.2 = false ∧ ty k = ty0
/-- a final field of own's, in its constructor -/
def QF (own : String) (idx ci f tc : Nat) (ty0 : FieldType) : Prop := ∃ (C : String) (T : u_T) (N : Nat) (ty : Nat → FieldType) (k : Nat), CL ci C T N ty ∧ k < N ∧ (cfl ci)[k]? = some (tc, f) ∧ LF own idx T k ∧ (T k).2.2.2 = true ∧ ty k = ty0 ∧ (T k).1 = own
theorem LF.same {own : String} {idx k : Nat} {T : u_T} {args : Array Value} {s : State} (hts : ∀ w ∈ tb, w.before args s = true) (h : LF own idx T k) : ∃ ref : String, (Cond.fieldLink own idx ref (T k).2.1 (T k).2.2.1).before args s = true ∧ ∀ x, s.fieldFound? (T k).1 (T k).2.1 (T k).2.2.1 = some x → s.fieldFound? ref (T k).2.1 (T k).2.2.1 = some x := by
  obtain ⟨ref, h1, h2⟩ := h
  refine ⟨ref, hts _ h1, ?_⟩
  rcases h2 with rfl | h2
  · exact fun _ h => h
  · exact u_same (hts _ h2)
section R5
variable {g : Gl} {Y : Mth} {d pc q : Nat} {ls st : List Value} {h h1 : Hp} {Q : Option Value → Hp → Prop} {H H1 : Heap}
theorem cellOf_obj {a ci : Nat} (hk : hK h a = ci + 1) (hc : ci < 10) : cellOf g h a = .inr (ci, (cfl ci).map (fval h a)) := by
  unfold cellOf
  rw [hk, if_pos (by omega)]
  rfl
theorem cellOf_I {a : Nat} (hk : hK h a = 21) : cellOf g h a = .inl (g.2.2.1 21, hN h a, .inl (aI h a)) := by
  unfold cellOf
  rw [hk, if_neg (by omega), if_pos (Or.inl rfl)]
theorem cellOf_Z {a : Nat} (hk : hK h a = 23) : cellOf g h a = .inl (g.2.2.1 23, hN h a, .inl (aI h a)) := by
  unfold cellOf
  rw [hk, if_neg (by omega), if_pos (Or.inr rfl)]
theorem cellOf_L {a : Nat} (hk : hK h a = 22) : cellOf g h a = .inl (g.2.2.1 22, hN h a, .inr (.inl (aL h a))) := by
  unfold cellOf
  rw [hk, if_neg (by omega), if_neg (by omega), if_pos rfl]
theorem cellOf_P {a k : Nat} (hk : hK h a = k) (h24 : 24 ≤ k) : cellOf g h a = .inl (g.2.2.1 k, hN h a, .inr (.inr (.inr (.inr (aP h a))))) := by
  unfold cellOf
  rw [hk, if_neg (by omega), if_neg (by omega), if_neg (by omega)]
theorem Rh.get (hR : Rh g h H) {a : Nat} (hk : hK h a ≠ 0) : ∃ q0 : Nat, (va_pl (hL h) (cellOf g h))[q0]? = some (a, cellOf g h a) := by
  obtain ⟨k, hk⟩ := va_pl_get (X := []) (f := cellOf g h) (hR.2.2.2 a hk)
  exact ⟨k, hk⟩
theorem Rh.obj (hR : Rh g h H) {a ci : Nat} (hk : hK h a = ci + 1) (hc : ci < 10) : ∃ q0 : Nat, (va_pl (hL h) (cellOf g h))[q0]? = some (a, .inr (ci, (cfl ci).map (fval h a))) := by
  obtain ⟨q0, h0⟩ := hR.get (a := a) (by omega)
  exact ⟨q0, by rw [h0, cellOf_obj hk hc]⟩
theorem Rh.lt (hR : Rh g h H) {a : Nat} (hk : hK h a ≠ 0) : a < hz h ∧ gA g a := by
  obtain ⟨q0, h0⟩ := hR.get hk
  exact ⟨by rw [← hR.1]; exact (hR.2.1 q0 _ h0).lt, hR.2.2.1.2 q0 _ h0⟩
theorem Rh.set (hR : Rh g h H) {a : Nat} {e : va_E} (ha : hK h a ≠ 0) (he : va_at g.2.1 vwCl (a, e) H1) (z : H1.size = H.size) (oq : ∀ q : Nat, q ≠ a → H1[q]? = H[q]?) (hc : ∀ b, va_up (cellOf g h) a e b = cellOf g h1 b) (e1 : hz h1 = hz h) (e2 : hL h1 = hL h) (e3 : hK h1 = hK h) : Rh g h1 H1 := by
  obtain ⟨k, hk⟩ := hR.get ha
  obtain ⟨r1, r2, r3, r4⟩ := hR
  have h5 := va_pl_set (X := []) (e := e) r3 (r4 a ha) hk
  have h6 : (va_pl (hL h) (cellOf g h)).set k (a, e) = va_pl (hL h1) (cellOf g h1) := by
    rw [e2]
    exact h5.trans (va_pl_congr hc)
  refine ⟨by rw [z, r1, e1], ?_, ?_, fun b hb => by rw [e2]; rw [e3] at hb; exact r4 b hb⟩
  · rw [← h6]
    exact r2.set r3 hk he oq
  · rw [← h6]
    exact r3.set hk
theorem Rh.push (hR : Rh g h H) {e : va_E} (hB : g.2.2.2.1 ≤ hz h) (he : va_at g.2.1 vwCl (hz h, e) H1) (z : H1.size = hz h + 1) (o1 : ∀ q : Nat, q < hz h → H1[q]? = H[q]?) (hc : ∀ b, va_up (cellOf g h) (hz h) e b = cellOf g h1 b) (e1 : hz h1 = hz h + 1) (e2 : hL h1 = hL h ++ [hz h]) (e3 : ∀ b, hK h1 b ≠ 0 → b = hz h ∨ hK h b ≠ 0) : Rh g h1 H1 := by
  obtain ⟨r1, r2, r3, r4⟩ := hR
  have hf : hz h ∉ hL h := va_pl_fresh (X := []) r2 (by rw [r1]; exact Nat.le_refl _)
  have h6 : va_pl (hL h) (cellOf g h) ++ [(hz h, e)] = va_pl (hL h1) (cellOf g h1) := by
    rw [e2]
    exact (va_pl_push hf).trans (va_pl_congr hc)
  refine ⟨by rw [z, e1], ?_, ?_, fun b hb => ?_⟩
  · rw [← h6]
    refine (r2.kept (fun k x hx => o1 x.1 (by rw [← r1]; exact (r2 k x hx).lt))).app (fun k x hx => ?_)
    have hz0 : k < 1 := (List.getElem?_eq_some_iff.mp hx).1
    rw [show k = 0 by omega] at hx
    cases hx
    exact he
  · rw [← h6]
    exact r3.push r2 r1.symm hB
  · rw [e2]
    rcases e3 b hb with rfl | hb
    · exact List.mem_append_right _ List.mem_cons_self
    · exact List.mem_append_left _ (r4 b hb)
theorem Cx.base {d : Nat} {p : Program} {R : Room} {s : State} {m : MethodId} {args : Array Value} {meth : Method} {c : Code} {locs : List Loc} (hC : Cx g Y d p R s m args meth c) (hR : Rh g h H) (hS : va_S (gA g) s.heap H locs) : g.2.2.2.1 ≤ hz h := by
  obtain ⟨-, -, -, -, -, -, -, -, hKn, -, -⟩ := hC
  rw [← hR.1]
  exact Nat.le_trans hKn.2.2.2.2.2.2.1 hS.1
theorem Cx.kn {d : Nat} {p : Program} {R : Room} {s : State} {m : MethodId} {args : Array Value} {meth : Method} {c : Code} (hC : Cx g Y d p R s m args meth c) : Kn g s := hC.2.2.2.2.2.2.2.2.1
theorem Cx.ts {d : Nat} {p : Program} {R : Room} {s : State} {m : MethodId} {args : Array Value} {meth : Method} {c : Code} (hC : Cx g Y d p R s m args meth c) : ∀ w ∈ tb, w.before args s = true := hC.2.2.2.2.1
theorem Cx.own {d : Nat} {p : Program} {R : Room} {s : State} {m : MethodId} {args : Array Value} {meth : Method} {c : Code} (hC : Cx g Y d p R s m args meth c) : s.vm.findClass Y.1.cls = some m.cls := hC.2.2.2.2.2.1
theorem va_S.grow {A : Nat → Prop} {H0 H H1 : Heap} {locs : List Loc} (hS : va_S A H0 H locs) (z : H.size ≤ H1.size) (o1 : ∀ q : Nat, q < H.size → H1[q]? = H[q]?) : va_S A H0 H1 locs :=
  ⟨Nat.le_trans hS.1 z, fun x h1 h2 => (o1 x (Nat.lt_of_lt_of_le h1 hS.1)).trans (hS.2.1 x h1 h2), hS.2.2⟩
theorem map_set (L : List (Nat × Nat)) (F G : Nat × Nat → Value) (kf : Nat) (x0 : Nat × Nat) (v : Value) (h0 : L[kf]? = some x0) (hG0 : G x0 = v) (hne : ∀ i y, L[i]? = some y → i ≠ kf → G y = F y) : (L.map F).set kf v = L.map G := by
  apply List.ext_getElem?
  intro i
  by_cases hi : i = kf
  · subst hi
    have hl := (List.getElem?_eq_some_iff.mp h0).1
    rw [List.getElem?_set_self (by rw [List.length_map]; exact hl), List.getElem?_map, h0]
    simp [hG0]
  · rw [List.getElem?_set_ne (Ne.symm hi), List.getElem?_map, List.getElem?_map]
    cases hL : L[i]? with
    | none => rfl
    | some y => simp [hne i y hL hi]
theorem nd_ne {L : List (Nat × Nat)} (hnd : (L.map (fun x => x.2)).Nodup) {i k : Nat} {x y : Nat × Nat} (hi : L[i]? = some x) (hk : L[k]? = some y) (hne : i ≠ k) : x.2 ≠ y.2 := by
  intro e
  obtain ⟨l1, e1⟩ := List.getElem?_eq_some_iff.mp hi
  obtain ⟨l2, e2⟩ := List.getElem?_eq_some_iff.mp hk
  have := (List.nodup_iff_pairwise_ne.mp hnd)
  rw [List.pairwise_iff_getElem] at this
  rcases Nat.lt_or_gt_of_ne hne with hl | hl
  · exact this i k (by simpa using l1) (by simpa using l2) hl (by simp [e1, e2, e])
  · exact this k i (by simpa using l2) (by simpa using l1) hl (by simp [e1, e2, e])
theorem cell_sFI {a ci kf f : Nat} {x : Int32} (hk : hK h a = ci + 1) (hc : ci < 10) (hcf : (cfl ci)[kf]? = some (0, f)) (hnd : ((cfl ci).map (fun x => x.2)).Nodup) (b : Nat) : va_up (cellOf g h) a (.inr (ci, ((cfl ci).map (fval h a)).set kf (.int x))) b = cellOf g (sFI h f a x) b := by
  by_cases hb : b = a
  · subst hb
    rw [va_up_self, cellOf_obj (h := sFI h f b x) hk hc, map_set (G := fval (sFI h f b x) b) (h0 := hcf)]
    · show fval (sFI h f b x) b (0, f) = _
      simp [fval, sFI, fI, up2]
    · intro i y hy hi
      have := nd_ne hnd hy hcf hi
      show fval (sFI h f b x) b y = fval h b y
      simp [fval, sFI, fI, fL, fP, up2, this]
  · rw [va_up_ne _ _ hb]
    have h1 : ∀ y, fval (sFI h f a x) b y = fval h b y := fun y => by simp [fval, sFI, fI, fL, fP, up2, hb]
    have h2 : fval (sFI h f a x) b = fval h b := funext h1
    unfold cellOf
    rw [h2]
    rfl
theorem cell_sFL {a ci kf f : Nat} {x : Int64} (hk : hK h a = ci + 1) (hc : ci < 10) (hcf : (cfl ci)[kf]? = some (1, f)) (hnd : ((cfl ci).map (fun x => x.2)).Nodup) (b : Nat) : va_up (cellOf g h) a (.inr (ci, ((cfl ci).map (fval h a)).set kf (.long x))) b = cellOf g (sFL h f a x) b := by
  by_cases hb : b = a
  · subst hb
    rw [va_up_self, cellOf_obj (h := sFL h f b x) hk hc, map_set (G := fval (sFL h f b x) b) (h0 := hcf)]
    · show fval (sFL h f b x) b (1, f) = _
      simp [fval, sFL, fL, up2]
    · intro i y hy hi
      have := nd_ne hnd hy hcf hi
      show fval (sFL h f b x) b y = fval h b y
      simp [fval, sFL, fI, fL, fP, up2, this]
  · rw [va_up_ne _ _ hb]
    have h1 : ∀ y, fval (sFL h f a x) b y = fval h b y := fun y => by simp [fval, sFL, fI, fL, fP, up2, hb]
    have h2 : fval (sFL h f a x) b = fval h b := funext h1
    unfold cellOf
    rw [h2]
    rfl
theorem cell_sFP {a ci kf f : Nat} {x : Option Nat} (hk : hK h a = ci + 1) (hc : ci < 10) (hcf : (cfl ci)[kf]? = some (2, f)) (hnd : ((cfl ci).map (fun x => x.2)).Nodup) (b : Nat) : va_up (cellOf g h) a (.inr (ci, ((cfl ci).map (fval h a)).set kf (va_rf x))) b = cellOf g (sFP h f a x) b := by
  by_cases hb : b = a
  · subst hb
    rw [va_up_self, cellOf_obj (h := sFP h f b x) hk hc, map_set (G := fval (sFP h f b x) b) (h0 := hcf)]
    · show fval (sFP h f b x) b (2, f) = _
      simp [fval, sFP, fP, up2]
    · intro i y hy hi
      have := nd_ne hnd hy hcf hi
      show fval (sFP h f b x) b y = fval h b y
      simp [fval, sFP, fI, fL, fP, up2, this]
  · rw [va_up_ne _ _ hb]
    have h1 : ∀ y, fval (sFP h f a x) b y = fval h b y := fun y => by simp [fval, sFP, fI, fL, fP, up2, hb]
    have h2 : fval (sFP h f a x) b = fval h b := funext h1
    unfold cellOf
    rw [h2]
    rfl
theorem v_get {idx ci f tc a : Nat} {v : Value} (hd : decode Y.2.1 pc = .ok (.getfield idx, 3)) (hq : pc + 3 = q) (hl : GF Y.1.cls idx ci f tc) (hk : hK h a = ci + 1) (hv : fval h a (tc, f) = v) (k : V g Y d q ls (v :: st) h Q) : V g Y d pc ls (.ref a :: st) h Q := by
  subst hq
  obtain ⟨C, T, N, ty, kf, ⟨c1, c2, c3, c4, c5, c6, c7, c8⟩, hkN, hcf, hlf⟩ := hl
  refine V.step (fun p e R s m args below meth c H locs cells slots arr Qf hC hR hS hL kk => ?_) k
  obtain ⟨q0, he⟩ := hR.obj hk c6
  obtain ⟨ref, hlk, hsm⟩ := hlf.same hC.ts
  exact va_get hC.1 hC.2.1 (Ts := tb) hC.ts c2 hC.own hC.kn.2.1 hR.2.1 q0 he c1 kf hkN hlk hsm (by rw [List.getElem?_map, hcf]; exact congrArg some hv) hd (kk arr hL)
theorem v_getI {idx ci f a : Nat} (hd : decode Y.2.1 pc = .ok (.getfield idx, 3)) (hq : pc + 3 = q) (hl : GF Y.1.cls idx ci f 0) (hk : hK h a = ci + 1) (k : V g Y d q ls (.int (fI h f a) :: st) h Q) : V g Y d pc ls (.ref a :: st) h Q := v_get hd hq hl hk rfl k
theorem v_getL {idx ci f a : Nat} (hd : decode Y.2.1 pc = .ok (.getfield idx, 3)) (hq : pc + 3 = q) (hl : GF Y.1.cls idx ci f 1) (hk : hK h a = ci + 1) (k : V g Y d q ls (.long (fL h f a) :: st) h Q) : V g Y d pc ls (.ref a :: st) h Q := v_get hd hq hl hk rfl k
theorem v_getP {idx ci f a : Nat} (hd : decode Y.2.1 pc = .ok (.getfield idx, 3)) (hq : pc + 3 = q) (hl : GF Y.1.cls idx ci f 2) (hk : hK h a = ci + 1) (k : V g Y d q ls (va_rf (fP h f a) :: st) h Q) : V g Y d pc ls (.ref a :: st) h Q := v_get hd hq hl hk rfl k
/-- a reference that isn't null -/
theorem v_getR {idx ci f a r : Nat} (hd : decode Y.2.1 pc = .ok (.getfield idx, 3)) (hq : pc + 3 = q) (hl : GF Y.1.cls idx ci f 2) (hk : hK h a = ci + 1) (hr : fP h f a = some r) (k : V g Y d q ls (.ref r :: st) h Q) : V g Y d pc ls (.ref a :: st) h Q := v_get hd hq hl hk (by show va_rf (fP h f a) = _; rw [hr]; rfl) k
theorem v_put {idx ci f tc a : Nat} {v : Value} {ty0 : FieldType} (hd : decode Y.2.1 pc = .ok (.putfield idx, 3)) (hq : pc + 3 = q) (hl : PF Y.1.cls idx ci f tc ty0) (hk : hK h a = ci + 1) (hn : narrow ty0 v = v) (hft : fits ty0 v = true)
    (hcell : ∀ kf, (cfl ci)[kf]? = some (tc, f) → ci < 10 → ((cfl ci).map (fun x => x.2)).Nodup → ∀ b, va_up (cellOf g h) a (.inr (ci, ((cfl ci).map (fval h a)).set kf v)) b = cellOf g h1 b)
    (e1 : hz h1 = hz h) (e0 : hs h1 = hs h) (e2 : hL h1 = hL h) (e3 : hK h1 = hK h) (k : V g Y d q ls st h1 Q) : V g Y d pc ls (v :: .ref a :: st) h Q := by
  subst hq
  obtain ⟨C, T, N, ty, kf, ⟨c1, c2, c3, c4, c5, c6, c7, c8⟩, hkN, hcf, hlf, hfin, hty⟩ := hl
  refine V.move (h1 := h1) ⟨by omega, by omega, fun a ha => Or.inl (by rw [← e2]; exact ha)⟩ (fun p e R s m args below meth c H locs cells slots arr Qf hC hR hS hL hc hsl kk => ?_) k
  obtain ⟨q0, he⟩ := hR.obj hk c6
  obtain ⟨ref, hlk, hsm⟩ := hlf.same hC.ts
  have hKs := hC.kn.2.1
  have hap := va_apart (own := Y.1.cls) hC.ts c2 ty c3 c4 hKs c1
  obtain ⟨r, g1, cell, q1, q2, q3, q4⟩ := hR.2.1 q0 _ he
  have hr : r = (C, T, N) := Option.some.inj (g1.symm.trans c1)
  subst hr
  obtain ⟨hSl, hfc, kC, hkC, hkind⟩ := hKs.1 ci _ c1
  obtain ⟨cf, kff, fi, fd, hi, hsl2⟩ := hSl kf hkN
  have hlay := hC.ts _ (c2 _ (u_in_lay hkN))
  unfold u_lay at hlay
  rw [if_neg (by rw [hfin]; decide)] at hlay
  have hst := (u_facts hfc hkC (u_lays hC.ts c2 hkN) hi).1
  have h6 := u_store hfc hkC hkind hlay hi (c3 kf hkN) (by rw [hty]; exact hn) (by rw [hty]; exact hft)
  refine W.putK hC.1 hC.2.1 (f := fd) ⟨hC.own, hlk, ⟨_, _, _, hsm _ hi⟩, hst⟩ (by rw [q2]; exact h6) q1 q3 (by rw [hsl2]; exact k2_hasslot (q4 kf hkN)) rfl rfl hd fun H' e4 e5 e6 => ?_
  rw [hsl2] at e4 ⊢
  have hlen : kf < ((cfl ci).map (fval h a)).length := by rw [List.length_map, c5]; exact hkN
  have hA : gA g a := (hR.lt (by omega : hK h a ≠ 0)).2
  have hR1 : Rh g h1 H' := hR.set (by omega : hK h a ≠ 0) (e := .inr (ci, ((cfl ci).map (fval h a)).set kf v)) ⟨_, c1, t_OB.to (V := updV (vp_V ((cfl ci).map (fval h a))) kf v) ⟨_, e4, q2, q3, t_set q4 hap hkN v⟩ (fun j _ => vp_updV_set hlen v j)⟩ e5 e6 (hcell kf hcf c6 c7) e1 e2 e3
  have := kk H' (locs ++ [⟨a, g.2.1.2 ci kf⟩]) hR1 (hS.put e5 e6 hA) (fun q _ hq => e6 q (fun e => hq (by rw [e]; exact hR.2.2.2 a (by omega))))
  rw [e1, e0, Nat.sub_self, Nat.sub_self, Nat.add_zero, Nat.add_zero] at this
  exact this
theorem v_putI {idx ci f a : Nat} {x : Int32} {ty0 : FieldType} (hd : decode Y.2.1 pc = .ok (.putfield idx, 3)) (hq : pc + 3 = q) (hl : PF Y.1.cls idx ci f 0 ty0) (hk : hK h a = ci + 1) (hn : narrow ty0 (.int x) = .int x) (hft : fits ty0 (.int x) = true) (k : V g Y d q ls st (sFI h f a x) Q) : V g Y d pc ls (.int x :: .ref a :: st) h Q :=
  v_put (h1 := sFI h f a x) hd hq hl hk hn hft (fun kf h1 h2 h3 => cell_sFI hk h2 h1 h3) rfl rfl rfl rfl k
theorem v_putL {idx ci f a : Nat} {x : Int64} (hd : decode Y.2.1 pc = .ok (.putfield idx, 3)) (hq : pc + 3 = q) (hl : PF Y.1.cls idx ci f 1 .long) (hk : hK h a = ci + 1) (k : V g Y d q ls st (sFL h f a x) Q) : V g Y d pc ls (.long x :: .ref a :: st) h Q :=
  v_put (h1 := sFL h f a x) hd hq hl hk rfl rfl (fun kf h1 h2 h3 => cell_sFL hk h2 h1 h3) rfl rfl rfl rfl k
theorem v_putP {idx ci f a : Nat} {x : Option Nat} {ty0 : FieldType} (hd : decode Y.2.1 pc = .ok (.putfield idx, 3)) (hq : pc + 3 = q) (hl : PF Y.1.cls idx ci f 2 ty0) (hk : hK h a = ci + 1) (hn : narrow ty0 (va_rf x) = va_rf x) (hft : fits ty0 (va_rf x) = true) (k : V g Y d q ls st (sFP h f a x) Q) : V g Y d pc ls (va_rf x :: .ref a :: st) h Q :=
  v_put (h1 := sFP h f a x) hd hq hl hk hn hft (fun kf h1 h2 h3 => cell_sFP hk h2 h1 h3) rfl rfl rfl rfl k
theorem v_putF {idx ci f tc a : Nat} {v : Value} {ty0 : FieldType} (hd : decode Y.2.1 pc = .ok (.putfield idx, 3)) (hq : pc + 3 = q) (hl : QF Y.1.cls idx ci f tc ty0) (hin : Y.1.name = "<init>") (hk : hK h a = ci + 1) (hn : narrow ty0 v = v) (hft : fits ty0 v = true)
    (hcell : ∀ kf, (cfl ci)[kf]? = some (tc, f) → ci < 10 → ((cfl ci).map (fun x => x.2)).Nodup → ∀ b, va_up (cellOf g h) a (.inr (ci, ((cfl ci).map (fval h a)).set kf v)) b = cellOf g h1 b)
    (e1 : hz h1 = hz h) (e0 : hs h1 = hs h) (e2 : hL h1 = hL h) (e3 : hK h1 = hK h) (k : V g Y d q ls st h1 Q) : V g Y d pc ls (v :: .ref a :: st) h Q := by
  subst hq
  obtain ⟨C, T, N, ty, kf, ⟨c1, c2, c3, c4, c5, c6, c7, c8⟩, hkN, hcf, hlf, hfin, hty, hdecl⟩ := hl
  refine V.move (h1 := h1) ⟨by omega, by omega, fun a ha => Or.inl (by rw [← e2]; exact ha)⟩ (fun p e R s m args below meth c H locs cells slots arr Qf hC hR hS hL hc hsl kk => ?_) k
  obtain ⟨q0, he⟩ := hR.obj hk c6
  obtain ⟨ref, hlk, hsm⟩ := hlf.same hC.ts
  have hKs := hC.kn.2.1
  have hap := va_apart (own := Y.1.cls) hC.ts c2 ty c3 c4 hKs c1
  obtain ⟨r, g1, cell, q1, q2, q3, q4⟩ := hR.2.1 q0 _ he
  have hr : r = (C, T, N) := Option.some.inj (g1.symm.trans c1)
  subst hr
  obtain ⟨hSl, hfc, kC, hkC, hkind⟩ := hKs.1 ci _ c1
  obtain ⟨cf, kff, fi, fd, hi, hsl2⟩ := hSl kf hkN
  have hlay := hC.ts _ (c2 _ (u_in_lay hkN))
  unfold u_lay at hlay
  rw [if_pos hfin] at hlay
  have hst := (u_facts hfc hkC (u_lays hC.ts c2 hkN) hi).1
  have hcf2 : m.cls = cf := by
    obtain ⟨_, _, c', _, _, _, -, -, hf', -, -, -, hown2, -⟩ := Cond.laysFinal_spec hlay
    have e1 : c' = cf := by have := hi.symm.trans hf'; simp at this; exact this.1.symm
    rw [hdecl] at hown2
    rw [← e1]; exact Option.some.inj (hC.own.symm.trans hown2)
  have h6 := u_fits hfc hkC hkind (Or.inr hlay) hi (c3 kf hkN) (by rw [hty]; exact hn) (by rw [hty]; exact hft)
  have hmn : meth.name = "<init>" := hC.2.2.2.2.2.2.2.1.trans hin
  refine W.putFinK hC.1 hC.2.1 hC.own hlk (hsm _ hi) hst hcf2 hmn (by rw [q2]; exact h6) q1 q3 (by rw [hsl2]; exact k2_hasslot (q4 kf hkN)) rfl rfl hd fun H' e4 e5 e6 => ?_
  rw [hsl2] at e4 ⊢
  have hlen : kf < ((cfl ci).map (fval h a)).length := by rw [List.length_map, c5]; exact hkN
  have hA : gA g a := (hR.lt (by omega : hK h a ≠ 0)).2
  have hR1 : Rh g h1 H' := hR.set (by omega : hK h a ≠ 0) (e := .inr (ci, ((cfl ci).map (fval h a)).set kf v)) ⟨_, c1, t_OB.to (V := updV (vp_V ((cfl ci).map (fval h a))) kf v) ⟨_, e4, q2, q3, t_set q4 hap hkN v⟩ (fun j _ => vp_updV_set hlen v j)⟩ e5 e6 (hcell kf hcf c6 c7) e1 e2 e3
  have := kk H' (locs ++ [⟨a, g.2.1.2 ci kf⟩]) hR1 (hS.put e5 e6 hA) (fun q _ hq => e6 q (fun e => hq (by rw [e]; exact hR.2.2.2 a (by omega))))
  rw [e1, e0, Nat.sub_self, Nat.sub_self, Nat.add_zero, Nat.add_zero] at this
  exact this
theorem v_putFI {idx ci f a : Nat} {x : Int32} {ty0 : FieldType} (hd : decode Y.2.1 pc = .ok (.putfield idx, 3)) (hq : pc + 3 = q) (hl : QF Y.1.cls idx ci f 0 ty0) (hin : Y.1.name = "<init>") (hk : hK h a = ci + 1) (hn : narrow ty0 (.int x) = .int x) (hft : fits ty0 (.int x) = true) (k : V g Y d q ls st (sFI h f a x) Q) : V g Y d pc ls (.int x :: .ref a :: st) h Q :=
  v_putF (h1 := sFI h f a x) hd hq hl hin hk hn hft (fun kf h1 h2 h3 => cell_sFI hk h2 h1 h3) rfl rfl rfl rfl k
theorem v_putFP {idx ci f a : Nat} {x : Option Nat} {ty0 : FieldType} (hd : decode Y.2.1 pc = .ok (.putfield idx, 3)) (hq : pc + 3 = q) (hl : QF Y.1.cls idx ci f 2 ty0) (hin : Y.1.name = "<init>") (hk : hK h a = ci + 1) (hn : narrow ty0 (va_rf x) = va_rf x) (hft : fits ty0 (va_rf x) = true) (k : V g Y d q ls st (sFP h f a x) Q) : V g Y d pc ls (va_rf x :: .ref a :: st) h Q :=
  v_putF (h1 := sFP h f a x) hd hq hl hin hk hn hft (fun kf h1 h2 h3 => cell_sFP hk h2 h1 h3) rfl rfl rfl rfl k
end R5
