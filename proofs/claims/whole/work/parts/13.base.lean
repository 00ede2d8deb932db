/-! 13: reading a changed heap -/
theorem hz_sFI (h : Hp) (k a : Nat) (v : Int32) : hz (sFI h k a v) = hz h := rfl
theorem hs_sFI (h : Hp) (k a : Nat) (v : Int32) : hs (sFI h k a v) = hs h := rfl
theorem hL_sFI (h : Hp) (k a : Nat) (v : Int32) : hL (sFI h k a v) = hL h := rfl
theorem hK_sFI (h : Hp) (k a : Nat) (v : Int32) : hK (sFI h k a v) = hK h := rfl
theorem hN_sFI (h : Hp) (k a : Nat) (v : Int32) : hN (sFI h k a v) = hN h := rfl
theorem fI_sFI (h : Hp) (k a : Nat) (v : Int32) (k2 a2 : Nat) : fI (sFI h k a v) k2 a2 = if k2 = k ∧ a2 = a then v else fI h k2 a2 := rfl
theorem fL_sFI (h : Hp) (k a : Nat) (v : Int32) : fL (sFI h k a v) = fL h := rfl
theorem fP_sFI (h : Hp) (k a : Nat) (v : Int32) : fP (sFI h k a v) = fP h := rfl
theorem aI_sFI (h : Hp) (k a : Nat) (v : Int32) : aI (sFI h k a v) = aI h := rfl
theorem aL_sFI (h : Hp) (k a : Nat) (v : Int32) : aL (sFI h k a v) = aL h := rfl
theorem aP_sFI (h : Hp) (k a : Nat) (v : Int32) : aP (sFI h k a v) = aP h := rfl
theorem hz_sFL (h : Hp) (k a : Nat) (v : Int64) : hz (sFL h k a v) = hz h := rfl
theorem hs_sFL (h : Hp) (k a : Nat) (v : Int64) : hs (sFL h k a v) = hs h := rfl
theorem hL_sFL (h : Hp) (k a : Nat) (v : Int64) : hL (sFL h k a v) = hL h := rfl
theorem hK_sFL (h : Hp) (k a : Nat) (v : Int64) : hK (sFL h k a v) = hK h := rfl
theorem hN_sFL (h : Hp) (k a : Nat) (v : Int64) : hN (sFL h k a v) = hN h := rfl
theorem fI_sFL (h : Hp) (k a : Nat) (v : Int64) : fI (sFL h k a v) = fI h := rfl
theorem fL_sFL (h : Hp) (k a : Nat) (v : Int64) (k2 a2 : Nat) : fL (sFL h k a v) k2 a2 = if k2 = k ∧ a2 = a then v else fL h k2 a2 := rfl
theorem fP_sFL (h : Hp) (k a : Nat) (v : Int64) : fP (sFL h k a v) = fP h := rfl
theorem aI_sFL (h : Hp) (k a : Nat) (v : Int64) : aI (sFL h k a v) = aI h := rfl
theorem aL_sFL (h : Hp) (k a : Nat) (v : Int64) : aL (sFL h k a v) = aL h := rfl
theorem aP_sFL (h : Hp) (k a : Nat) (v : Int64) : aP (sFL h k a v) = aP h := rfl
theorem hz_sFP (h : Hp) (k a : Nat) (v : Option Nat) : hz (sFP h k a v) = hz h := rfl
theorem hs_sFP (h : Hp) (k a : Nat) (v : Option Nat) : hs (sFP h k a v) = hs h := rfl
theorem hL_sFP (h : Hp) (k a : Nat) (v : Option Nat) : hL (sFP h k a v) = hL h := rfl
theorem hK_sFP (h : Hp) (k a : Nat) (v : Option Nat) : hK (sFP h k a v) = hK h := rfl
theorem hN_sFP (h : Hp) (k a : Nat) (v : Option Nat) : hN (sFP h k a v) = hN h := rfl
theorem fI_sFP (h : Hp) (k a : Nat) (v : Option Nat) : fI (sFP h k a v) = fI h := rfl
theorem fL_sFP (h : Hp) (k a : Nat) (v : Option Nat) : fL (sFP h k a v) = fL h := rfl
theorem fP_sFP (h : Hp) (k a : Nat) (v : Option Nat) (k2 a2 : Nat) : fP (sFP h k a v) k2 a2 = if k2 = k ∧ a2 = a then v else fP h k2 a2 := rfl
theorem aI_sFP (h : Hp) (k a : Nat) (v : Option Nat) : aI (sFP h k a v) = aI h := rfl
theorem aL_sFP (h : Hp) (k a : Nat) (v : Option Nat) : aL (sFP h k a v) = aL h := rfl
theorem aP_sFP (h : Hp) (k a : Nat) (v : Option Nat) : aP (sFP h k a v) = aP h := rfl
theorem hz_sAI (h : Hp) (a : Nat) (r : Nat → Int32) : hz (sAI h a r) = hz h := rfl
theorem hs_sAI (h : Hp) (a : Nat) (r : Nat → Int32) : hs (sAI h a r) = hs h := rfl
theorem hL_sAI (h : Hp) (a : Nat) (r : Nat → Int32) : hL (sAI h a r) = hL h := rfl
theorem hK_sAI (h : Hp) (a : Nat) (r : Nat → Int32) : hK (sAI h a r) = hK h := rfl
theorem hN_sAI (h : Hp) (a : Nat) (r : Nat → Int32) : hN (sAI h a r) = hN h := rfl
theorem fI_sAI (h : Hp) (a : Nat) (r : Nat → Int32) : fI (sAI h a r) = fI h := rfl
theorem fL_sAI (h : Hp) (a : Nat) (r : Nat → Int32) : fL (sAI h a r) = fL h := rfl
theorem fP_sAI (h : Hp) (a : Nat) (r : Nat → Int32) : fP (sAI h a r) = fP h := rfl
theorem aI_sAI (h : Hp) (a : Nat) (r : Nat → Int32) (a2 : Nat) : aI (sAI h a r) a2 = if a2 = a then r else aI h a2 := rfl
theorem aL_sAI (h : Hp) (a : Nat) (r : Nat → Int32) : aL (sAI h a r) = aL h := rfl
theorem aP_sAI (h : Hp) (a : Nat) (r : Nat → Int32) : aP (sAI h a r) = aP h := rfl
theorem hz_sAL (h : Hp) (a : Nat) (r : Nat → Int64) : hz (sAL h a r) = hz h := rfl
theorem hs_sAL (h : Hp) (a : Nat) (r : Nat → Int64) : hs (sAL h a r) = hs h := rfl
theorem hL_sAL (h : Hp) (a : Nat) (r : Nat → Int64) : hL (sAL h a r) = hL h := rfl
theorem hK_sAL (h : Hp) (a : Nat) (r : Nat → Int64) : hK (sAL h a r) = hK h := rfl
theorem hN_sAL (h : Hp) (a : Nat) (r : Nat → Int64) : hN (sAL h a r) = hN h := rfl
theorem fI_sAL (h : Hp) (a : Nat) (r : Nat → Int64) : fI (sAL h a r) = fI h := rfl
theorem fL_sAL (h : Hp) (a : Nat) (r : Nat → Int64) : fL (sAL h a r) = fL h := rfl
theorem fP_sAL (h : Hp) (a : Nat) (r : Nat → Int64) : fP (sAL h a r) = fP h := rfl
theorem aI_sAL (h : Hp) (a : Nat) (r : Nat → Int64) : aI (sAL h a r) = aI h := rfl
theorem aL_sAL (h : Hp) (a : Nat) (r : Nat → Int64) (a2 : Nat) : aL (sAL h a r) a2 = if a2 = a then r else aL h a2 := rfl
theorem aP_sAL (h : Hp) (a : Nat) (r : Nat → Int64) : aP (sAL h a r) = aP h := rfl
theorem hz_sAP (h : Hp) (a : Nat) (r : Nat → Option Nat) : hz (sAP h a r) = hz h := rfl
theorem hs_sAP (h : Hp) (a : Nat) (r : Nat → Option Nat) : hs (sAP h a r) = hs h := rfl
theorem hL_sAP (h : Hp) (a : Nat) (r : Nat → Option Nat) : hL (sAP h a r) = hL h := rfl
theorem hK_sAP (h : Hp) (a : Nat) (r : Nat → Option Nat) : hK (sAP h a r) = hK h := rfl
theorem hN_sAP (h : Hp) (a : Nat) (r : Nat → Option Nat) : hN (sAP h a r) = hN h := rfl
theorem fI_sAP (h : Hp) (a : Nat) (r : Nat → Option Nat) : fI (sAP h a r) = fI h := rfl
theorem fL_sAP (h : Hp) (a : Nat) (r : Nat → Option Nat) : fL (sAP h a r) = fL h := rfl
theorem fP_sAP (h : Hp) (a : Nat) (r : Nat → Option Nat) : fP (sAP h a r) = fP h := rfl
theorem aI_sAP (h : Hp) (a : Nat) (r : Nat → Option Nat) : aI (sAP h a r) = aI h := rfl
theorem aL_sAP (h : Hp) (a : Nat) (r : Nat → Option Nat) : aL (sAP h a r) = aL h := rfl
theorem aP_sAP (h : Hp) (a : Nat) (r : Nat → Option Nat) (a2 : Nat) : aP (sAP h a r) a2 = if a2 = a then r else aP h a2 := rfl
theorem hz_nObj (h : Hp) (k n : Nat) : hz (nObj h k n) = hz h + 1 := rfl
theorem hs_nObj (h : Hp) (k n : Nat) : hs (nObj h k n) = hs h + n := rfl
theorem hL_nObj (h : Hp) (k n : Nat) : hL (nObj h k n) = hL h ++ [hz h] := rfl
theorem hK_nObj (h : Hp) (k n a : Nat) : hK (nObj h k n) a = if a = hz h then k else hK h a := rfl
theorem hN_nObj (h : Hp) (k n : Nat) : hN (nObj h k n) = hN h := rfl
theorem fI_nObj (h : Hp) (k n f a : Nat) : fI (nObj h k n) f a = if a = hz h then 0 else fI h f a := rfl
theorem fL_nObj (h : Hp) (k n f a : Nat) : fL (nObj h k n) f a = if a = hz h then 0 else fL h f a := rfl
theorem fP_nObj (h : Hp) (k n f a : Nat) : fP (nObj h k n) f a = if a = hz h then none else fP h f a := rfl
theorem aI_nObj (h : Hp) (k n : Nat) : aI (nObj h k n) = aI h := rfl
theorem aL_nObj (h : Hp) (k n : Nat) : aL (nObj h k n) = aL h := rfl
theorem aP_nObj (h : Hp) (k n : Nat) : aP (nObj h k n) = aP h := rfl
theorem hz_nArr (h : Hp) (k n : Nat) : hz (nArr h k n) = hz h + 1 := rfl
theorem hs_nArr (h : Hp) (k n : Nat) : hs (nArr h k n) = hs h + n := rfl
theorem hL_nArr (h : Hp) (k n : Nat) : hL (nArr h k n) = hL h ++ [hz h] := rfl
theorem hK_nArr (h : Hp) (k n a : Nat) : hK (nArr h k n) a = if a = hz h then k else hK h a := rfl
theorem hN_nArr (h : Hp) (k n a : Nat) : hN (nArr h k n) a = if a = hz h then n else hN h a := rfl
theorem fI_nArr (h : Hp) (k n : Nat) : fI (nArr h k n) = fI h := rfl
theorem fL_nArr (h : Hp) (k n : Nat) : fL (nArr h k n) = fL h := rfl
theorem fP_nArr (h : Hp) (k n : Nat) : fP (nArr h k n) = fP h := rfl
theorem aI_nArr (h : Hp) (k n a : Nat) : aI (nArr h k n) a = if a = hz h then (fun _ => 0) else aI h a := rfl
theorem aL_nArr (h : Hp) (k n a : Nat) : aL (nArr h k n) a = if a = hz h then (fun _ => 0) else aL h a := rfl
theorem aP_nArr (h : Hp) (k n a : Nat) : aP (nArr h k n) a = if a = hz h then (fun _ => none) else aP h a := rfl
theorem w_oi : Cond.instanceMethod objectInit ∈ tb := tm 75 (by decide +kernel) rfl
theorem w_oc : Cond.code objectInit ⟨#[0xb1]⟩ 1 none ∈ tb := tm 76 (by decide +kernel) rfl
theorem w_sc : Cond.selects "[Ljava/lang/Object;" ⟨"java/lang/Object", "getClass", "()Ljava/lang/Class;"⟩ ⟨"java/lang/Object", "getClass", "()Ljava/lang/Class;"⟩ ∈ tb := tm 1097 (by decide +kernel) rfl
theorem w_ic : Cond.instanceMethod ⟨"java/lang/Object", "getClass", "()Ljava/lang/Class;"⟩ ∈ tb := tm 587 (by decide +kernel) rfl
theorem w_nc : Cond.native ⟨"java/lang/Object", "getClass", "()Ljava/lang/Class;"⟩ ∈ tb := tm 599 (by decide +kernel) rfl
theorem w_dc : Cond.declares ⟨"java/lang/Object", "getClass", "()Ljava/lang/Class;"⟩ ∈ tbN := tmN 1098 (by decide +kernel) rfl
theorem ml_gs : Cond.fieldLink RJx4a65c 39 "java/util/ArrayList" "DEFAULTCAPACITY_EMPTY_ELEMENTDATA" "[Ljava/lang/Object;" ∈ tb := tm 375 (by decide +kernel) rfl
theorem cpW_of {own : String} {idx : Nat} (hm : Cond.methodLink own idx arraycopyName ∈ tb) : cpW own idx := ⟨hm, tm 482 (by decide +kernel) rfl, tm 481 (by decide +kernel) rfl, tm 65 (by decide +kernel) rfl⟩
theorem Met.ofP {l : Launch} {y : MethodName} {ws ws' : List Cond} {rm : Room} {Pc : Array Value → State → Prop} {Qc : Array Value → State → Outcome → State → Prop} {mc ms : Nat} {free : Addr → Prop} {cc : ByteArray} {maxL : Nat} {ret : Option FieldType}
    (hy : plainFor y = true) (hw : ws = Cond.code y cc maxL ret :: ws')
    (body : ∀ p e s m args below meth c s₁, BodyLoose p l y (headSpec ws rm) cc maxL ret e s m args below meth c s₁ → c.maxLocals = maxL → Pc args s →
      W p l e (headSpec ws rm).room s m args below meth c s.heap [] 0 0 (MQ below Qc args s mc ms free) (entryFrame m args maxL)) : Met l y ws rm Pc Qc mc ms free := by
  refine MetFree.of_bodySF (code := cc) (maxLocals := maxL) (ret := ret) hy ?_ ?_
  · intro args s m h hn
    obtain ⟨meth, c, h1, h2, h3, h4, h5, h6, -, -⟩ := Cond.code_spec hn (atoms_spec (ws := ws) h _ (by rw [hw]; exact List.mem_cons_self))
    exact ⟨meth, c, h1, h2, h3, h4, h5, h6⟩
  · intro p e s m args below meth c s₁ B hml hP _
    have hh0 : s₁.heap = s.heap := by rw [B.state]; rfl
    obtain ⟨t, a1, o, b1, b2, b3⟩ := body p e s m args below meth c s₁ B hml hP s₁ hh0 (Stand.of_body B)
    exact ⟨t, o, a1, b1, b2, ⟨b3.1, b3.2⟩⟩
/-- as Call.of, for a class of which some methods are the machine's own -/
theorem Call.ofP {g : Gl} {Y : Mth} {d : Nat} {av : List Value} {h : Hp} {Q : Option Value → Hp → Prop} (ls : List Value) (hy : plainFor Y.1 = true) (hlen : (lg_sl av).length ≤ Y.2.2.1) (hls : entL av ++ List.replicate (Y.2.2.1 - (entL av).length) zz = ls)
    (body : V g Y d 0 ls [] h Q) : Call g Y d av h Q := by
  obtain ⟨v, h', ⟨r1, r3⟩, q⟩ := body
  refine ⟨v, h', ⟨r1, ?_⟩, q⟩
  refine Met.ofP (cc := Y.2.1) (maxL := Y.2.2.1) (ret := Y.2.2.2) hy rfl ?_
  intro p e s m args below meth c s₁ B hml hv
  obtain ⟨rfl, hR, hKn⟩ := hv
  have hts := atoms_spec (ws := wsY Y) B.pre
  have hown : s.vm.findClass Y.1.cls = some m.cls := findClass_of_methodNamed B.named
  have hl := lv_entry av (n := Y.2.2.1) hlen
  rw [lg_entry_eq]
  generalize (lg_sl av ++ List.replicate (Y.2.2.1 - (lg_sl av).length) Slot.unset).toArray = arr at hl ⊢
  refine r3 p e _ s m _ below meth c s.heap [] 0 0 arr h ⟨B.exec, B.bytes, B.returns, hml, fun w hw => hts w (List.mem_cons_of_mem _ hw), hown, B.notSynchronized, (name_of_methodNamed B.named B.method).1, hKn, Nat.le_of_eq rfl, Nat.le_of_eq rfl⟩ hR va_S.rf ⟨hl.1, hl.2.1, fun i v hi hz => ?_⟩ (by simp [headSpec]) (by simp [headSpec]) (Ext.rf h) hR.1.symm (fun _ _ _ => rfl)
  have h3 := hl.2.2
  rw [← hls] at hi
  by_cases hj : i < (entL av).length
  · rw [List.getElem?_append_left hj] at hi
    have := entL_args av 0 i v hi hz
    rw [Nat.zero_add] at this
    exact h3 _ this
  · rw [List.getElem?_append_right (by omega)] at hi
    have := List.mem_replicate.mp (List.mem_of_getElem? hi)
    exact absurd this.2 hz
