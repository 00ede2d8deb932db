/-! 09: calls; copies of rows -/
/-- method Y with n parameters can be called -/
def MOK (Y : Mth) (n : Nat) : Prop := Cond.code Y.1 Y.2.1 Y.2.2.1 Y.2.2.2 ∈ tb ∧ Cond.initialized Y.1.cls ∈ tb ∧ (Y.1.cls ≠ "java/lang/invoke/MethodHandle" ∧ Y.1.cls ≠ "java/lang/invoke/VarHandle" ∧ (parseMethodDescriptor Y.1.desc).map (fun d => d.parameters.length) = some n) ∧ Y.2.2.1 ≤ 400
section R9
variable {g : Gl} {Y Y' : Mth} {d d' pc q n : Nat} {ls st av : List Value} {h h1 : Hp} {Q : Option Value → Hp → Prop} {H H1 : Heap}
theorem V.call {stk : List Value}
    (hrun : ∀ (p : Program) (e : Env) (R : Room) (s : State) (m : MethodId) (args : Array Value) (below : List Frame) (meth : Method) (c : Code) (H : Heap) (locs : List Loc) (cells slots : Nat) (arr : Array Slot) (v : Option Value) (h1 : Hp),
      Ct g Y' d' av h v h1 → Cx g Y d p R s m args meth c → Rh g h H → va_S (gA g) s.heap H locs → Lok Y.2.2.1 ls arr → cells + (hz h1 - hz h) ≤ R.cells → slots + (hs h1 - hs h) ≤ R.slots →
      va_Run p g.1 e R s m args below meth c H locs cells slots (hz h1 - hz h) (hs h1 - hs h) (F0 m pc arr stk) st (Qend g h v h1 av.toArray) (gA g))
    (k : Call g Y' d' av h (fun v h1 => V g Y d (pc + 3) ls (v.toList ++ st) h1 Q)) : V g Y d pc ls stk h Q := by
  obtain ⟨v, h1, hCt, v2, h2, ⟨r1, r3⟩, q⟩ := k
  refine ⟨v2, h2, ⟨hCt.1.tr r1, ?_⟩, q⟩
  intro p e R s m args below meth c H locs cells slots arr h0 hC hR hS hL hc hsl hE hz0 hX
  have k1 := hCt.1.1
  have k2 := hCt.1.2.1
  have k3 := r1.1
  have k4 := r1.2.1
  intro T hT X
  obtain ⟨vv, st₀, t, T', L, hst0, X', hL', e1, e2, ⟨hv, hR1, hKn1, ⟨hz1, hk1⟩, hX1⟩, stp⟩ := hrun p e R s m args below meth c H locs cells slots arr v h1 hCt hC hR hS hL (by omega) (by omega) T hT X
  cases hv
  rw [hst0] at hz1 hk1 hX1
  have hS1 : va_S (gA g) s.heap T'.heap (locs ++ L) := ⟨Nat.le_trans hS.1 (by rw [e1]; exact hz1), fun q g1 g2 => by rw [e1, hk1 q (Nat.lt_of_lt_of_le g1 hS.1) g2]; exact hS.2.1 q g1 g2, fun q hq => by
    rcases List.mem_append.mp hq with h | h
    · exact hS.2.2 q h
    · exact hL' q h⟩
  obtain ⟨t2, a1, b1⟩ := r3 p e R s m args below meth c T'.heap (locs ++ L) _ _ arr h0 hC (by rw [e1]; exact hR1) hS1 hL (by omega) (by omega) (hE.tr hCt.1) hz0 (hX.on hE hz0 hS.1 (by rw [e1]; exact hX1)) T' rfl X'
  exact ⟨t2, stp t2 a1, b1⟩
theorem pc_blind : FrameBlind (va_Pc av (fun U => Rh g h U.heap ∧ Kn g U)) := by
  intro a U f mk ⟨hv, hR, hKn⟩
  exact ⟨hv, hR, hKn.on (State.WarmedH.refl U) ⟨Nat.le_refl _, fun _ _ _ => rfl⟩⟩
theorem ct_good (hM : MOK Y' n) : GoodIn tb (wsY Y') := by
  intro w hw
  rcases List.mem_cons.mp hw with e | hw
  · rw [e]
    exact tb_in _ hM.1
  · exact tb_in w hw
/-- the words of a call -/
theorem ct_B {p : Program} {R : Room} {s : State} {m : MethodId} {args : Array Value} {meth : Method} {c : Code} {v : Option Value} {idx : Nat} (hC : Cx g Y d p R s m args meth c) (hM : MOK Y' n) (hw : Cond.methodLink Y.1.cls idx Y'.1 ∈ tb) (hd : d' + 1 ≤ d) : CallB R s args Y.1.cls idx Y'.1 Y'.2.1 Y'.2.2.1 Y'.2.2.2 (wsY Y') { frames := d', cells := hz h1 - hz h, slots := hs h1 - hs h, locals := 512 * d' } (hz h1 - hz h) (hs h1 - hs h) n := by
  obtain ⟨x1, x2, x3, x4, x5, x6, x7, x8, x9, x10, x11⟩ := id hC
  refine callB_of n hC.ts (ct_good hM) rfl rfl rfl (hC.ts _ hM.2.1) (hC.ts _ hw) hM.2.2.1 ⟨Nat.le_trans hd x10, ?_⟩
  have := hM.2.2.2
  show 8 + (Y'.2.2.1 + 11) + 512 * d' ≤ R.locals
  omega
theorem ct_pre {p : Program} {R : Room} {s : State} {m : MethodId} {args : Array Value} {meth : Method} {c : Code} {locs : List Loc} (hC : Cx g Y d p R s m args meth c) (hR : Rh g h H) (hS : va_S (gA g) s.heap H locs) : PreS s H (va_Pc av (fun U => Rh g h U.heap ∧ Kn g U)) av :=
  ⟨pc_blind, fun U hU hW => ⟨rfl, by rw [hU]; exact hR, hC.kn.on hW (hS.F hU)⟩⟩
theorem v_callS {idx : Nat} {stk : List Value} (hd : decode Y.2.1 pc = .ok (.invokestatic idx, 3)) (hq : pc + 3 = q) (hM : MOK Y' n) (w1 : Cond.methodLink Y.1.cls idx Y'.1 ∈ tb) (w2 : Cond.static Y'.1 ∈ tb) (hdd : d' + 1 ≤ d) (hn : av.length = n) (hst : stk = av.reverse ++ st) (hr : (st.map fun v => v.category).sum ≤ 8)
    (k : Call g Y' d' av h (fun v h1 => V g Y d q ls (v.toList ++ st) h1 Q)) : V g Y d pc ls stk h Q := by
  subst hq
  refine V.call (fun p e R s m args below meth c H locs cells slots arr v h1 hCt hC hR hS hL hc hsl => ?_) k
  exact va_runS ⟨hC.1, hC.2.1, hC.2.2.2.1, hC.own, hC.ts⟩ hCt.2 ⟨ct_B (v := v) hC hM w1 hdd, hC.ts _ w2⟩ (ct_pre hC hR hS) rfl hn hL.1 hst (lv_room hr) hd ⟨hc, hsl⟩
/-- a method of the receiver's own class or of one above it -/
theorem v_callV {idx a ci N : Nat} {C : String} {T : u_T} {ty : Nat → FieldType} {stk : List Value} (hd : decode Y.2.1 pc = .ok (.invokevirtual idx, 3)) (hq : pc + 3 = q) (hM : MOK Y' n) (hcl : CL ci C T N ty) (w1 : Cond.methodLink Y.1.cls idx Y'.1 ∈ tb) (w2 : Cond.instanceMethod Y'.1 ∈ tb) (w3 : Cond.selects C Y'.1 Y'.1 ∈ tb) (hk : hK h a = ci + 1) (hdd : d' + 1 ≤ d) (hn : av.length = n) (hst : stk = av.reverse ++ .ref a :: st) (hr : (st.map fun v => v.category).sum ≤ 8)
    (k : Call g Y' d' (.ref a :: av) h (fun v h1 => V g Y d q ls (v.toList ++ st) h1 Q)) : V g Y d pc ls stk h Q := by
  subst hq
  refine V.call (fun p e R s m args below meth c H locs cells slots arr v h1 hCt hC hR hS hL hc hsl => ?_) k
  have hp := ct_pre (av := .ref a :: av) hC hR hS
  exact va_runV ⟨hC.1, hC.2.1, hC.2.2.2.1, hC.own, hC.ts⟩ hCt.2 ⟨ct_B (v := v) hC hM w1 hdd, hC.ts _ w2, hC.ts _ w3⟩ ⟨hp.1, hR.recv hC.kn hk hcl, hp.2⟩ rfl hn hL.1 hst (lv_room hr) hd ⟨hc, hsl⟩
/-- an abstract method of the class owner, answered by Y' -/
theorem v_callA {idx a ci N : Nat} {C : String} {x : MethodName} {T : u_T} {ty : Nat → FieldType} {stk : List Value} (hd : decode Y.2.1 pc = .ok (.invokevirtual idx, 3)) (hq : pc + 3 = q) (hM : MOK Y' n) (hcl : CL ci C T N ty) (w1 : ∀ w ∈ va_wsU Y.1.cls idx C x.cls x Y'.1 [], w ∈ tb) (w2 : Cond.declares ⟨x.cls, x.name, x.desc⟩ ∈ tbN) (hx : x.cls ≠ "java/lang/invoke/MethodHandle" ∧ x.cls ≠ "java/lang/invoke/VarHandle" ∧ (parseMethodDescriptor x.desc).map (fun d => d.parameters.length) = some n) (hk : hK h a = ci + 1) (hdd : d' + 1 ≤ d) (hn : av.length = n) (hst : stk = av.reverse ++ .ref a :: st) (hr : (st.map fun v => v.category).sum ≤ 8)
    (k : Call g Y' d' (.ref a :: av) h (fun v h1 => V g Y d q ls (v.toList ++ st) h1 Q)) : V g Y d pc ls stk h Q := by
  subst hq
  refine V.call (fun p e R s m args below meth c H locs cells slots arr v h1 hCt hC hR hS hL hc hsl => ?_) k
  obtain ⟨x1, x2, x3, x4, x5, x6, x7, x8, x9, x10, x11⟩ := id hC
  have hp := ct_pre (av := .ref a :: av) hC hR hS
  have hT : GoodIn tb (va_wsU Y.1.cls idx C x.cls x Y'.1 (wsY Y')) := by
    intro w hw
    unfold va_wsU at hw
    rcases List.mem_append.mp hw with hw | hw
    · exact tb_in w (w1 w (by unfold va_wsU; exact List.mem_append_left _ hw))
    · exact ct_good hM w hw
  have hmL := hM.2.2.2
  refine va_runU (owner := x.cls) ⟨hC.1, hC.2.1, hC.2.2.2.1, hC.own, hC.ts⟩ hCt.2 (va_cwA n hC.ts hT rfl rfl rfl (hC.kn.1 _ w2) hx ⟨Nat.le_trans hdd x10, by show 8 + (Y'.2.2.1 + 11) + 512 * d' ≤ R.locals; omega⟩) ⟨hp.1, hR.recv hC.kn hk hcl, hp.2⟩ rfl hn hL.1 hst (lv_room hr) hd ⟨hc, hsl⟩
theorem v_callI {idx a : Nat} {stk : List Value} (hd : decode Y.2.1 pc = .ok (.invokespecial idx, 3)) (hq : pc + 3 = q) (hM : MOK Y' n) (hret : Y'.2.2.2 = none) (hnm : Y'.1.name = "<init>") (w1 : Cond.methodLink Y.1.cls idx Y'.1 ∈ tb) (w2 : Cond.instanceMethod Y'.1 ∈ tb) (hdd : d' + 1 ≤ d) (hn : av.length = n) (hst : stk = av.reverse ++ .ref a :: st) (hr : (st.map fun v => v.category).sum ≤ 8)
    (k : Call g Y' d' (.ref a :: av) h (fun v h1 => V g Y d q ls (v.toList ++ st) h1 Q)) : V g Y d pc ls stk h Q := by
  subst hq
  refine V.call (fun p e R s m args below meth c H locs cells slots arr v h1 hCt hC hR hS hL hc hsl => ?_) k
  have hp := ct_pre (av := .ref a :: av) hC hR hS
  have hB := ct_B (h := h) (h1 := h1) (v := v) hC hM w1 hdd
  rw [hret] at hB
  exact va_runI ⟨hC.1, hC.2.1, hC.2.2.2.1, hC.own, hC.ts⟩ hCt.2 ⟨hB, hnm, hC.ts _ w2⟩ hp rfl hn hL.1 hst (lv_room hr) hd ⟨hc, hsl⟩
/-- a nest mate's private constructor -/
theorem v_callIN {idx a : Nat} {stk : List Value} {host : String} (hd : decode Y.2.1 pc = .ok (.invokespecial idx, 3)) (hq : pc + 3 = q) (hM : MOK Y' n) (hret : Y'.2.2.2 = none) (hnm : Y'.1.name = "<init>") (w1 : Cond.methodLinkNest Y.1.cls idx Y'.1 host ∈ tbN) (w2 : Cond.instanceMethod Y'.1 ∈ tb) (hdd : d' + 1 ≤ d) (hn : av.length = n) (hst : stk = av.reverse ++ .ref a :: st) (hr : (st.map fun v => v.category).sum ≤ 8)
    (k : Call g Y' d' (.ref a :: av) h (fun v h1 => V g Y d q ls (v.toList ++ st) h1 Q)) : V g Y d pc ls stk h Q := by
  subst hq
  refine V.call (fun p e R s m args below meth c H locs cells slots arr v h1 hCt hC hR hS hL hc hsl => ?_) k
  obtain ⟨x1, x2, x3, x4, x5, x6, x7, x8, x9, x10, x11⟩ := id hC
  have hp := ct_pre (av := .ref a :: av) hC hR hS
  have hmL := hM.2.2.2
  have hB := va_cnB (R := R) (s := s) (args := args) (rm := { frames := d', cells := hz h1 - hz h, slots := hs h1 - hs h, locals := 512 * d' }) n hC.ts (ct_good hM) rfl rfl rfl (hC.kn.1 _ w1) (hC.ts _ hM.2.1) hM.2.2.1 ⟨Nat.le_trans hdd x10, by show 8 + (Y'.2.2.1 + 11) + 512 * d' ≤ R.locals; omega⟩
  rw [hret] at hB
  exact va_runIN ⟨hC.1, hC.2.1, hC.2.2.2.1, hC.own, hC.ts⟩ hCt.2 ⟨hB, hnm, hC.ts _ w2⟩ hp rfl hn hL.1 hst (lv_room hr) hd ⟨hc, hsl⟩
end R9
