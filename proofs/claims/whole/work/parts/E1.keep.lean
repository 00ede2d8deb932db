/-! E1: what events and marks keep of a mill -/
theorem vN_mem {L : List Wd} {w : Wd} (h : w ∈ L) : (wVs w).length ≤ vN L := by
  obtain ⟨A, B, e⟩ := List.append_of_mem h
  rw [e, vN_app, vN_cons]
  omega
/-- what SI says of a stage -/
def SIs (s : Nat) (S : Stg) (rows : List Rw) : Prop := (isW S = true → stOK s S ∧ (∀ k, k < 1000 → LnI (sSes S) s k (sSp S) (gI S 1) rows (gL S k)) ∧ gI S 8 = 0 ∧ ∀ k, k < 1000 → ∀ w ∈ gL S k, (wVs w).length ≤ camS S) ∧ (isW S = false → gI S 23 = 0) ∧ 0 ≤ (gI S 1).toInt ∧ (gI S 1).toInt ≤ 200000
section LE1
variable {X : Sg} {s k : Nat} {S : Stg} {rows' : List Rw} {m : Int32} {v : Int64}
theorem SI.set (h : SI X) (hr : ∃ more, rows' = xR X ++ more) (hR : ∀ r ∈ rows', RwB r) (hS : SIs s S rows') : SI (xSet X s S rows') := by
  refine ⟨fun t ht => ?_, hR, h.2.2⟩
  by_cases e : t = s
  · subst e
    rw [xS_set]
    exact hS
  · rw [xS_set_ne X _ _ e]
    obtain ⟨a, b, c⟩ := h.1 t ht
    obtain ⟨more, em⟩ := hr
    refine ⟨fun hw => ?_, b, c⟩
    obtain ⟨a1, a2, a3, a4⟩ := a hw
    exact ⟨a1, fun j hj => by
      show LnI _ _ _ _ _ rows' _
      rw [em]
      exact (a2 j hj).app, a3, a4⟩
theorem SI.one (h : SI X) (hs : s < xM X) : SIs s (xS X s) (xR X) := h.1 s hs
/-- a stage's ints change where SI says nothing -/
theorem SIs.more {S' : Stg} {rows : List Rw} (h : SIs s S rows) (e : ∀ f, f = 1 ∨ f = 3 ∨ f = 6 ∨ f = 7 ∨ f = 20 ∨ f = 21 ∨ f = 22 ∨ f = 23 → gI S' f = gI S f) (eL : gL S' = gL S) (hw : isW S = true → gI S' 8 = 0 ∧ camS S ≤ camS S') : SIs s S' rows := by
  have e3 := e 3 (by omega)
  have eW : isW S' = isW S := by
    unfold isW
    rw [e3]
  have es : sSes S' = sSes S := by
    unfold sSes
    rw [e3]
  have ep : sSp S' = sSp S := by
    unfold sSp
    rw [e3, e 6 (by omega)]
  have et : sSt S' = sSt S := by
    unfold sSt
    rw [e3, e 6 (by omega), e 7 (by omega)]
  have eh : sHow S' = sHow S := by
    unfold sHow
    rw [e 20 (by omega)]
  have ea : sEa S' = sEa S := by
    unfold sEa
    rw [e 22 (by omega)]
  have ed : sDr S' = sDr S := by
    unfold sDr
    rw [e 23 (by omega)]
  have e1 := e 1 (by omega)
  refine ⟨fun w => ?_, fun w => ?_, by rw [e1]; exact h.2.2⟩
  · rw [eW] at w
    obtain ⟨a1, a2, a3, a4⟩ := h.1 w
    refine ⟨?_, ?_, (hw w).1, fun j hj x hx => ?_⟩
    · unfold stOK
      rw [eh, ea, ep, et, ed, e1, e3, e 20 (by omega), e 21 (by omega), e 22 (by omega), e 23 (by omega)]
      exact a1
    · rw [es, ep, e1, eL]
      exact a2
    · rw [eL] at hx
      exact Nat.le_trans (a4 j hj x hx) (hw w).2
  · rw [eW] at w
    rw [e 23 (by omega)]
    exact h.2.1 w
theorem SI.set2 (h : SI X) (hs : s < xM X) (u : Int32) : SI (xSet X s (sgI (xS X s) 2 u) (xR X)) := by
  refine h.set ⟨[], (List.append_nil _).symm⟩ h.2.1 ((h.one hs).more (fun f hf => ?_) rfl (fun hw => ⟨?_, Nat.le_refl _⟩))
  · show upR (gI (xS X s)) 2 u f = _
    exact upR_ne _ _ (by omega)
  · show upR (gI (xS X s)) 2 u 8 = _
    rw [upR_ne _ _ (by decide)]
    exact ((h.one hs).1 hw).2.2.1
theorem SI.pass (h : SI X) (hs : s < xM X) (hw : isW (xS X s) = false) {key : Int32} : SI (xSet X s (passS (xS X s) key m v) (xR X)) := by
  refine h.set ⟨[], (List.append_nil _).symm⟩ h.2.1 ((h.one hs).more (fun f hf => ?_) ?_ (fun q => by rw [hw] at q; cases q))
  · unfold passS
    split
    · show upR (upR (upR (upR (gI (xS X s)) 4 _) 8 1) 9 _) 10 _ f = _
      rw [upR_ne _ _ (by omega), upR_ne _ _ (by omega), upR_ne _ _ (by omega), upR_ne _ _ (by omega)]
    · show upR (gI (xS X s)) 4 _ f = _
      exact upR_ne _ _ (by omega)
  · unfold passS
    split <;> rfl
theorem SI.rise {to : Int32} (hB : BI X) (hS : SI X) (hs : s < xM X) (h16 : xM X ≤ 16) (h1 : (gI (xS X s) 1).toInt ≤ to.toInt) (h2 : to.toInt ≤ 200000) : SI (riseG X s to) ∧ BI (riseG X s to) ∧ tot camS (riseG X s to) = tot camS X ∧ RX X (riseG X s to) := by
  have h0 := (hS.one hs).2.2.1
  by_cases hw : isW (xS X s) = true
  · obtain ⟨hO, hI, h8, hl⟩ := (hS.one hs).1 hw
    obtain ⟨⟨B1, B2, B3, B4, B5, B6, B7, B8, B9, B10, B11, B12⟩, o20, o22, o23, okd⟩ := id hO
    obtain ⟨r1, r2, r3, r4, r5, r6⟩ := rs_pure (how := sHow (xS X s)) hI B4 (by omega) hS.2.1 h1
    have eR : riseG X s to = xSet X s (stR (xS X s) to (rsS s (sHow (xS X s)) (gI (xS X s) 1) to (gL (xS X s), xR X)).1) (rsS s (sHow (xS X s)) (gI (xS X s) 1) to (gL (xS X s), xR X)).2 := if_pos hw
    rw [eR]
    generalize (rsS s (sHow (xS X s)) (gI (xS X s) 1) to (gL (xS X s), xR X)).1 = ln' at *
    generalize (rsS s (sHow (xS X s)) (gI (xS X s) 1) to (gL (xS X s), xR X)).2 = rows' at *
    have ee : entS (xS X s) = sm vN (gL (xS X s)) := if_pos hw
    have ep : potS (xS X s) = sm cR (gL (xS X s)) + 2 * sm (cD (gI (xS X s) 1)) (gL (xS X s)) := if_pos hw
    have ee3 : entS (stR (xS X s) to ln') = sm vN ln' := if_pos hw
    have ep3 : potS (stR (xS X s) to ln') = sm cR ln' + 2 * sm (cD to) ln' := if_pos hw
    obtain ⟨hB3, hC3⟩ := hB.set (S := stR (xS X s) to ln') (rows' := rows') hs rfl (by rw [ee3, ee, r5]) rfl (by unfold ptR at r4; omega) rfl (fun _ => ⟨rfl, rfl⟩)
    refine ⟨hS.set r6 r2 ⟨fun _ => ⟨⟨⟨B1, B2, B3, B4, B5, B6, B7, B8, B9, B10, show 0 ≤ to.toInt by omega, h2⟩, o20, o22, o23, okd⟩, r1, h8, fun j hj w hx => ?_⟩, fun q => absurd hw (by rw [show isW (xS X s) = false from q]; decide), show 0 ≤ to.toInt by omega, h2⟩, hB3, hC3, rfl, rfl, rfl, r6, SG.set X s _ _ ⟨rfl, rfl, rfl, rfl⟩⟩
    obtain ⟨w', hw', ew⟩ := ext_mem (r3 j).symm hx
    have : wVs w' = wVs w := congrArg (·.2.2) ew
    rw [← this]
    exact hl j hj w' hw'
  · have eR : riseG X s to = xSet X s (sgI (xS X s) 1 to) (xR X) := if_neg hw
    have hw' := Bool.eq_false_iff.mpr hw
    rw [eR]
    have z : isW (sgI (xS X s) 1 to) = false := hw'
    obtain ⟨hB3, hC3⟩ := hB.set (S := sgI (xS X s) 1 to) (rows' := xR X) hs rfl ((if_neg (by rw [z]; decide)).trans (if_neg hw).symm) ((if_neg (by rw [z]; decide)).trans (if_neg hw).symm) (Nat.le_of_eq (congrArg (fun n => (xR X).length + n) ((if_neg (by rw [z]; decide)).trans (if_neg hw).symm))) rfl (fun q => by rw [z] at q; cases q)
    refine ⟨hS.set ⟨[], (List.append_nil _).symm⟩ hS.2.1 ⟨fun q => (by rw [z] at q; cases q), fun _ => (hS.one hs).2.1 hw', show 0 ≤ to.toInt by omega, h2⟩, hB3, hC3, rfl, rfl, rfl, ⟨[], (List.append_nil _).symm⟩, SG.set X s _ _ ⟨rfl, rfl, rfl, rfl⟩⟩
theorem SI.stl (hG : GO X) (hB : BI X) (hS : SI X) (hs : s < xM X) : SI (settle1 X s) ∧ BI (settle1 X s) ∧ tot camS (settle1 X s) = tot camS X ∧ RX X (settle1 X s) := by
  have rx : ∀ u, RX X (xSet X s (sgI (xS X s) 2 u) (xR X)) := fun u => ⟨rfl, rfl, rfl, ⟨[], (List.append_nil _).symm⟩, SG.set X s _ _ ⟨rfl, rfl, rfl, rfl⟩⟩
  unfold settle1
  by_cases hw : wake X s = []
  · rw [if_pos hw]
    exact ⟨hS.set2 hs 1, (hB.set2 1 hs).1, (hB.set2 1 hs).2, rx 1⟩
  rw [if_neg hw]
  by_cases hl : gI (xS X s) 1 < leastM X s
  · rw [if_pos hl]
    have e : leastM X s = lst X s (8 + s) := (wake_eq hG hs).2
    have h2 := lst_le X s (8 + s)
    rw [← e] at h2
    rw [fa_lt] at hl
    obtain ⟨a1, a2, a3, a4⟩ := SI.rise (X := xSet X s (sgI (xS X s) 2 0) (xR X)) (to := leastM X s) (hB.set2 0 hs).1 (hS.set2 hs 0) hs hG.1 (by
      rw [xS_set]
      show (gI (xS X s) 1).toInt ≤ _
      omega) h2
    exact ⟨a1, a2, a3.trans (hB.set2 0 hs).2, (rx 0).tr a4⟩
  · rw [if_neg hl]
    exact ⟨hS.set2 hs 0, (hB.set2 0 hs).1, (hB.set2 0 hs).2, rx 0⟩
theorem fst_bd {ses : Bool} {sp st m : Int32} (h1 : 1 ≤ sp.toInt) (h2 : sp.toInt ≤ 10001) (h3 : 1 ≤ st.toInt) (h4 : st.toInt ≤ 10001) (m0 : 0 ≤ m.toInt) (m1 : m.toInt ≤ 100000) : -10000 ≤ (fstB ses sp st m).toInt ∧ (fstB ses sp st m).toInt ≤ 120000 ∧ 0 < (fstB ses sp st m).toInt + sp.toInt := by
  cases ses with
  | true =>
    show -10000 ≤ m.toInt ∧ m.toInt ≤ 120000 ∧ 0 < m.toInt + sp.toInt
    omega
  | false =>
    have q1 := Int.mul_ediv_add_emod (m.toInt - sp.toInt) st.toInt
    have q2 := Int.emod_nonneg (m.toInt - sp.toInt) (show st.toInt ≠ 0 by omega)
    have q3 := Int.emod_lt_of_pos (m.toInt - sp.toInt) (show 0 < st.toInt by omega)
    rw [Int.mul_comm] at q1
    have e2 : (fstB false sp st m).toInt = (m.toInt - sp.toInt) / st.toInt * st.toInt + st.toInt := by
      unfold fstB
      rw [if_neg (by decide), Int32.toInt_ofInt, show (Int32.size : Nat) = 4294967296 from rfl]
      exact Int.bmod_eq_of_le (by omega) (by omega)
    omega
theorem SI.take (hB : BI X) (hS : SI X) (hs : s < xM X) (hw : isW (xS X s) = true) (hk : k < 1000) (m0 : 0 ≤ m.toInt) (m1 : m.toInt ≤ 100000) (hC : tot camS X < 1000000) : SI (takeG X s (nI k) m v) ∧ BI (takeG X s (nI k) m v) ∧ tot camS (takeG X s (nI k) m v) = tot camS X + 1 ∧ KX X (takeG X s (nI k) m v) := by
  obtain ⟨hO, hI, h8, hl⟩ := (hS.one hs).1 hw
  obtain ⟨⟨B1, B2, B3, B4, B5, B6, B7, B8, B9, B10, B11, B12⟩, o20, o22, o23, okd⟩ := id hO
  obtain ⟨f1, f2, f3⟩ := fst_bd (ses := sSes (xS X s)) B4 B5 B6 B7 m0 m1
  obtain ⟨r1, r2, r3, r4, r5, r6, r7⟩ := tk_fold (how := sHow (xS X s)) (ea := sEa (xS X s)) (v := v) (m := m) (N := camS (xS X s)) B4 B5 B6 B7 ⟨B9, B10⟩ hk B1 m1 4 (fstB (sSes (xS X s)) (sSp (xS X s)) (sSt (xS X s)) m) (gL (xS X s), xR X, sDr (xS X s)) (Nat.le_refl _) hI hS.2.1 f1 f2 f3 (fun _ j hj w hx => ⟨Nat.le_succ_of_le (hl j hj w hx), fun _ => hl j hj w hx⟩)
  have hdr := tk_dr (sSes (xS X s)) s (sHow (xS X s)) (sEa (xS X s)) (sSp (xS X s)) (sSt (xS X s)) (gI (xS X s) 21) (gI (xS X s) 1) k m v (gL (xS X s), xR X, sDr (xS X s))
  have eT : takeG X s (nI k) m v = xSet X s (stT (xS X s) (tkS (sSes (xS X s)) s (sHow (xS X s)) (sEa (xS X s)) (sSp (xS X s)) (sSt (xS X s)) (gI (xS X s) 21) (gI (xS X s) 1) k m v (gL (xS X s), xR X, sDr (xS X s))).1 (tkS (sSes (xS X s)) s (sHow (xS X s)) (sEa (xS X s)) (sSp (xS X s)) (sSt (xS X s)) (gI (xS X s) 21) (gI (xS X s) 1) k m v (gL (xS X s), xR X, sDr (xS X s))).2.2) (tkS (sSes (xS X s)) s (sHow (xS X s)) (sEa (xS X s)) (sSp (xS X s)) (sSt (xS X s)) (gI (xS X s) 21) (gI (xS X s) 1) k m v (gL (xS X s), xR X, sDr (xS X s))).2.1 := takeG_eq X s (nI k) m v _ _ _ (by rw [nI_clamp (by omega)])
  have hB4 := begs_len (sSt (xS X s)) m 4 (fstB (sSes (xS X s)) (sSp (xS X s)) (sSt (xS X s)) m)
  have hse : sSes (xS X s) = true → (begs 4 (fstB (sSes (xS X s)) (sSp (xS X s)) (sSt (xS X s)) m) (sSt (xS X s)) m).length ≤ 1 := fun q => ses_begs (sp := sSp (xS X s)) (st := sSt (xS X s)) q B6 B7 m1 m0
  rw [eT]
  have eK : (begs 4 (fstB (sSes (xS X s)) (sSp (xS X s)) (sSt (xS X s)) m) (sSt (xS X s)) m).foldl (enS (sSes (xS X s)) s (sHow (xS X s)) (sEa (xS X s)) (sSp (xS X s)) (gI (xS X s) 21) (gI (xS X s) 1) k v) (gL (xS X s), xR X, sDr (xS X s)) = tkS (sSes (xS X s)) s (sHow (xS X s)) (sEa (xS X s)) (sSp (xS X s)) (sSt (xS X s)) (gI (xS X s) 21) (gI (xS X s) 1) k m v (gL (xS X s), xR X, sDr (xS X s)) := by
    unfold tkS
    rfl
  rw [eK] at r1 r2 r3 r4 r5 r6 r7
  have hb := hB.1 s hs hw
  have hcs := tot_le camS X hs
  generalize tkS (sSes (xS X s)) s (sHow (xS X s)) (sEa (xS X s)) (sSp (xS X s)) (sSt (xS X s)) (gI (xS X s) 21) (gI (xS X s) 1) k m v (gL (xS X s), xR X, sDr (xS X s)) = T' at *
  obtain ⟨ln', rows', dr'⟩ := T'
  have r3' : ptR (gI (xS X s) 1) ln' rows' + 4 * sm vN (gL (xS X s)) ≤ ptR (gI (xS X s) 1) (gL (xS X s)) (xR X) + 4 * sm vN ln' := r3
  have r4' : sm vN (gL (xS X s)) ≤ sm vN ln' := r4
  have r5' : sm vN ln' ≤ sm vN (gL (xS X s)) + (begs 4 (fstB (sSes (xS X s)) (sSp (xS X s)) (sSt (xS X s)) m) (sSt (xS X s)) m).length := r5
  have hdr' : dr' ≤ sDr (xS X s) + 4 := hdr
  obtain ⟨hB1, hC1⟩ := hB.take hs hw hC r3' r4' (by omega) (fun q => by have := hse q; omega) hdr'
  have eD : sDr (stT (xS X s) ln' dr') = dr' := nI_clamp (by omega)
  have eC : camS (stT (xS X s) ln' dr') = camS (xS X s) + 1 := by
    have a : gI (stT (xS X s) ln' dr') 4 = gI (xS X s) 4 + 1 := rfl
    have b : camS (stT (xS X s) ln' dr') = (gI (stT (xS X s) ln' dr') 4).toNatClampNeg := if_pos hw
    rw [b, a, hb.2.2.2.1, nI_1, nI_clamp (by omega)]
  refine ⟨hS.set r6 r2 ⟨fun _ => ⟨⟨⟨B1, B2, B3, B4, B5, B6, B7, B8, B9, B10, B11, B12⟩, o20, o22, ?_, okd⟩, r1, h8, fun j hj w hx => ?_⟩, fun q => absurd hw (by rw [show isW (xS X s) = false from q]; decide), (hS.one hs).2.2⟩, hB1, hC1, KX.set X s _ _ (KS_stT _ _ _) r6⟩
  · rw [eD]
    rfl
  · show (wVs w).length ≤ camS (stT (xS X s) ln' dr')
    by_cases hses : sSes (xS X s) = true
    · have h1 := vN_mem hx
      have h2 := sm_le vN ln' hj
      have h3 := (hB1.1 s hs (by rw [xS_set]; exact hw)).2.1 (by rw [xS_set]; exact hses)
      rw [xS_set] at h3
      have h4 : entS (stT (xS X s) ln' dr') = sm vN ln' := if_pos hw
      have h1' : (wVs w).length ≤ vN (ln' j) := h1
      omega
    · rw [eC]
      exact r7 (Bool.eq_false_iff.mpr hses) j hj w hx
end LE1
