/-! 48: Windowed: join -/
def S5 (s k : Nat) : Nat → Prop := fun t => t = tg s k ∨ t = tP s ∨ t = tL ∨ t = tD s ∨ t = tQ s
/-- the heaps when the window of k becomes [b, e): it waits there anew if it is another -/
def dueA (ch : Prop) [Decidable ch] (mk : Int32) (k : Nat) (b e : Int32) (D : List Int64) : List Int64 := if ch ∧ mk < e then cSlot (nI k) b e :: D else D
def pasA (ch : Prop) [Decidable ch] (mk : Int32) (k : Nat) (b e : Int32) (D : List Int64) : List Int64 := if ch ∧ ¬ mk < e then cSlot (nI k) b e :: D else D
def noR (x : Wd) : Wd := (wB x, wE x, none, wVs x)
section L48
variable {g : Gl} {d : Nat} {h : Hp} {Q : Option Value → Hp → Prop} {ow : Nat → Nat} {s p lg A q1 q2 how c k la al e : Nat} {sl ce : Nat} {rows : List Rw}
theorem LnF.fr {Z : Zw} {h' : Hp} {ow' : Nat → Nat} {S : Nat → Prop} (hF : LnF g h ow s p lg A q1 q2 how c k la al e Z sl ce rows) (f : Fr ow ow' S h h') (wf' : Wf h') (h1 : ¬ S (tg s k)) (h2 : ¬ S (tP s)) (h3 : ¬ S (tA s)) (h4 : ¬ S tL) (h0 : ¬ S 0) : LnF g h' ow' s p lg A q1 q2 how c k la al e Z sl ce rows ∧ sameAt h h' p := by
  obtain ⟨x1, x2, x3, x4, x5, x6, x7, x8⟩ := hF
  have lt := x1.lt x8.1
  have sp : sameAt h h' p := f.2.2 p lt.1 (by rw [x1.2.1]; exact h2)
  have sA : sameAt h h' A := f.2.2 A lt.2 (by rw [x1.2.2.2.2.2.2.2.2.2]; exact h3)
  have sl : sameAt h h' la := f.2.2 la (x8.1 la (by rw [x4.1.1]; decide)) (by rw [x4.2.1]; exact h1)
  exact ⟨⟨x1.on (PFl.of sp) (by decide) (f.2.1 p lt.1) (f.2.1 A lt.2) sA.1 sA.2.1, (sp.2.2.1 20).trans x2, by rw [sA.2.2.2.2.2.2.2]; exact x3, x4.fr x8 f h1 h0, (sl.2.2.1 28).trans x5, x6.fr x4 x8 f h1 h0, x7.fr x8.1 f h4, x8.fr f h0 wf'⟩, sp⟩
theorem LnF.wid {Z1 Z2 : Zw} {w : Nat} {x : Wd} {b' e' : Int32} (hF : LnF g h ow s p lg A q1 q2 how c k la al e (Z1 ++ (w, x) :: Z2) sl ce rows) (hs6 : s < 16) (hk : k < 1000) :
    LnF g (sFI (sFI h 35 w b') 36 w e') ow s p lg A q1 q2 how c k la al e (Z1 ++ (w, (b', e', wR x, wVs x)) :: Z2) sl ce rows ∧ Fr ow ow (fun t => t = tg s k) h (sFI (sFI h 35 w b') 36 w e') ∧ sameAt h (sFI (sFI h 35 w b') 36 w e') p := by
  obtain ⟨x1, x2, x3, x4, x5, x6, x7, x8⟩ := hF
  have nT : ¬ tL = tg s k := by unfold tg tL; omega
  have hx := x4.2.2.2.2.1 (w, x) (by simp)
  have npw : p ≠ w := fun e => by
    have h1 := x1.1
    rw [e, hx.1] at h1
    omega
  have nlw : la ≠ w := fun e => by
    have h1 := x4.1.1
    rw [e, hx.1] at h1
    omega
  have fr : Fr ow ow (fun t => t = tg s k) h (sFI (sFI h 35 w b') 36 w e') := Fr.of0 (P := fun a => a = w) (((Smo.rf (S := fun a => a = w) h).andFI (Or.inl rfl)).andFI (Or.inl rfl)) (fun a _ e => e ▸ hx.2.1)
  have sp : sameAt h (sFI (sFI h 35 w b') 36 w e') p := (same_sFI npw).tr (same_sFI npw)
  have hwd : WdV (sFI (sFI h 35 w b') 36 w e') ow (tg s k) how k w (b', e', wR x, wVs x) := by
    obtain ⟨v1, v2, v3, v4, v5, v6, v7, v8, vs, y, v9, v10, o, v11, v12⟩ := hx
    exact ⟨v1, v2, ((fi_ne _ _ _ _ (by decide)).trans (fi_ne _ _ _ _ (by decide))).trans v3, (fi_ne _ _ _ _ (by decide)).trans (fi_eq _ _ _ _), fi_eq _ _ _ _, ((fi_ne _ _ _ _ (by decide)).trans (fi_ne _ _ _ _ (by decide))).trans v6, ((fi_ne _ _ _ _ (by decide)).trans (fi_ne _ _ _ _ (by decide))).trans v7, v8, vs, ⟨y.1, ((fi_ne _ _ _ _ (by decide)).trans (fi_ne _ _ _ _ (by decide))).trans y.2.1, rfl, y.2.2.2.1, y.2.2.2.2⟩, v9, v10, o, v11, v12⟩
  have z4 := x4.upd (w' := (b', e', wR x, wVs x)) x8 (s := ((Smo_sFI (Or.inl rfl)).andFI (Or.inl (Or.inl rfl)))) (fun _ _ => rfl) hwd (fun t ht => Or.inl ht)
  refine ⟨⟨x1.on (PFl.of sp) (by decide) rfl rfl rfl rfl, (sp.2.2.1 20).trans x2, x3, z4, ?_, ?_, x7.fr x8.1 fr nT, ⟨Wf_same rfl rfl x8.1, x8.2⟩⟩, fr, sp⟩
  · rw [fi_na _ _ _ _ nlw, fi_na _ _ _ _ nlw, x5]
    congr 1
    unfold cntR
    simp only [List.countP_append, List.countP_cons, show wR (b', e', wR x, wVs x) = wR x from rfl]
  · have zz := zC_upd (h := h) (c := c) (Z1 := Z1) (Z2 := Z2) (w := w) (x := x) (x' := (b', e', wR x, wVs x)) rfl
    unfold LCost at x6 ⊢
    rw [← zz.1, ← zz.2.1, ← zz.2.2] at x6
    exact x6
theorem HpL.mono {T q b b' : Nat} {D : List Int64} (x : HpL h ow T q D sl ce b) (hb : b ≤ b') : HpL h ow T q D sl ce b' := by
  obtain ⟨t, x1, x2, x3, x4, x5, x6, x7, x8⟩ := x
  exact ⟨t, x1, x2, x3, x4, x5, by omega, by omega, by omega⟩
theorem tkB01 (t : Int32) (b : List Rw) : tkB t b = 0 ∨ tkB t b = 1 := by
  unfold tkB
  split
  · exact Or.inr rfl
  · exact Or.inl rfl
/-- the end of join: the window takes [b, e0) in -/
theorem jn128 {Z1 Z2 : Zw} {w s1 c1 b1 s2 c2 b2 : Nat} {x : Wd} {b e0 wb we took mk n : Int32} {u : Value} {D1 D2 : List Int64} (hF : LnF g h ow s p lg A q1 q2 how c k la al e (Z1 ++ (w, x) :: Z2) sl ce rows) (hs6 : s < 16) (hk : k < 1000) (ht : took = 0 ∨ took = 1) (fm : fI h 1 p = mk) (hD1 : HpL h ow (tD s) q1 D1 s1 c1 b1) (hD2 : HpL h ow (tQ s) q2 D2 s2 c2 b2) (hb1 : b1 < 400000) (hb2 : b2 < 400000) (hu : u.category = 1)
    (hQ : ∀ h' ow' s1' c1' s2' c2', LnF g h' ow' s p lg A q1 q2 how c k la al e (Z1 ++ (w, (mnI (wB x) b, mxI (wE x) e0, wR x, wVs x)) :: Z2) sl ce rows → HpL h' ow' (tD s) q1 (dueA (¬ (mnI (wB x) b = wb ∧ mxI (wE x) e0 = we)) mk k (mnI (wB x) b) (mxI (wE x) e0) D1) s1' c1' (b1 + 1) → HpL h' ow' (tQ s) q2 (pasA (¬ (mnI (wB x) b = wb ∧ mxI (wE x) e0 = we)) mk k (mnI (wB x) b) (mxI (wE x) e0) D2) s2' c2' (b2 + 1) → Fr ow ow' (S5 s k) h h' → sameAt h h' p → hs h' + s1 + s2 ≤ hs h + s1' + s2' → hz h' + c1 + c2 ≤ hz h + c1' + c2' → Q (some (.int took)) h') :
    V g mX8_join (d + 8) 128 [.ref p, .ref la, .int (nI Z1.length), .int b, .int e0, .ref w, .int wb, .int we, .int took, u, .int n] [] h Q := by
  have hx := hF.2.2.2.1.2.2.2.2.1 (w, x) (by simp)
  have kw : hK h w = 7 := hx.1
  have kp : hK h p = 8 := hF.1.1
  have e35 : fI h 35 w = wB x := hx.2.2.2.1
  have e36 : fI h 36 w = wE x := hx.2.2.2.2.1
  have hfits : ∀ t : Int32, (t = 0 ∨ t = 1) → narrow .boolean (.int t) = .int t := fun t ht => by rcases ht with e | e <;> subst e <;> rfl
  refine v_ald5 (q := 130) dX8_join_128 rfl rfl ?_
  refine v_ild3 (q := 131) dX8_join_130 rfl ?_
  refine v_ild4 (q := 133) dX8_join_131 rfl ?_
  refine v_callV (q := 136) (d' := d + 7) (av := [.int b, .int e0]) dX8_join_133 rfl ok_X7_widen CL6 ml_X8_190 im_X7_widen se_X7_widen (by assumption) (by omega) rfl rfl (Nat.le_of_ble_eq_true rfl) ?_
  refine k_widen (d := d + 6) kw ?_
  rw [e35, e36]
  obtain ⟨F1, f1, sp1⟩ := hF.wid (b' := mnI (wB x) b) (e' := mxI (wE x) e0) hs6 hk
  show V g mX8_join (d + 8) 136 [.ref p, .ref la, .int (nI Z1.length), .int b, .int e0, .ref w, .int wb, .int we, .int took, u, .int n] [] (sFI (sFI h 35 w (mnI (wB x) b)) 36 w (mxI (wE x) e0)) Q
  have hQ' := hQ
  clear hQ
  have z1 : hz (sFI (sFI h 35 w (mnI (wB x) b)) 36 w (mxI (wE x) e0)) = hz h := rfl
  have z2 : hs (sFI (sFI h 35 w (mnI (wB x) b)) 36 w (mxI (wE x) e0)) = hs h := rfl
  generalize hH : sFI (sFI h 35 w (mnI (wB x) b)) 36 w (mxI (wE x) e0) = h1 at *
  generalize hb' : mnI (wB x) b = bb at *
  generalize he' : mxI (wE x) e0 = ee at *
  have wf1 := F1.2.2.2.2.2.2.2.1
  have nD : ¬ tD s = tg s k := by unfold tD tg; omega
  have nQ : ¬ tQ s = tg s k := by unfold tQ tg; omega
  have D1' := hD1.fr hF.2.2.2.2.2.2.2.1 f1 nD
  have D2' := hD2.fr hF.2.2.2.2.2.2.2.1 f1 nQ
  have hx1 := F1.2.2.2.1.2.2.2.2.1 (w, (bb, ee, wR x, wVs x)) (by simp)
  have kw1 : hK h1 w = 7 := hx1.1
  have kp1 : hK h1 p = 8 := F1.1.1
  have fm1 : fI h1 1 p = mk := (sp1.2.2.1 1).trans fm
  have f35 : fI h1 35 w = bb := hx1.2.2.2.1
  have f36 : fI h1 36 w = ee := hx1.2.2.2.2.1
  have nchg : bb = wb ∧ ee = we → V g mX8_join (d + 8) 162 [.ref p, .ref la, .int (nI Z1.length), .int b, .int e0, .ref w, .int wb, .int we, .int took, u, .int n] [] h1 Q := fun hc => by
    refine v_ild8 (q := 164) dX8_join_162 rfl ?_
    refine v_zret dX8_join_164 rfl (hfits took ht) ?_
    refine hQ' h1 ow s1 c1 s2 c2 F1 ?_ ?_ (f1.mono (fun t e => Or.inl e)) sp1 (by omega) (by omega)
    · unfold dueA
      rw [if_neg (fun hh => hh.1 hc)]
      exact D1'.mono (Nat.le_succ _)
    · unfold pasA
      rw [if_neg (fun hh => hh.1 hc)]
      exact D2'.mono (Nat.le_succ _)
  have chg : ¬ (bb = wb ∧ ee = we) → V g mX8_join (d + 8) 156 [.ref p, .ref la, .int (nI Z1.length), .int b, .int e0, .ref w, .int wb, .int we, .int took, u, .int n] [] h1 Q := fun hc => by
    refine v_ald0 (q := 157) dX8_join_156 rfl rfl ?_
    refine v_ald5 (q := 159) dX8_join_157 rfl rfl ?_
    refine v_callV (q := 162) (d' := d + 7) (av := [.ref w]) dX8_join_159 rfl ok_X8_await CL7 ml_X8_166 im_X8_await se_X8_await (by assumption) (by omega) rfl rfl (Nat.le_of_ble_eq_true rfl) ?_
    refine k_await (d := d + 4) (k := k) (b := bb) (e2 := ee) F1.1 wf1 kw1 hx1.2.2.1 f35 f36 fm1 D1' D2' hb1 hb2 (fun hm h2 s1' c1' G1 g1 wf2 y1 y2 => ?_) (fun hm h2 s2' c2' G1 g1 wf2 y1 y2 => ?_)
    · have m1 : ¬ tg s k = tD s := fun e => nD e.symm
      have m2 : ¬ tP s = tD s := by unfold tP tD; omega
      have m3 : ¬ tA s = tD s := by unfold tA tD; omega
      have m4 : ¬ tL = tD s := by unfold tL tD; omega
      have m0 : ¬ 0 = tD s := by unfold tD; omega
      have m5 : ¬ tQ s = tD s := by unfold tQ tD; omega
      obtain ⟨F2, sp2⟩ := F1.fr g1 wf2 m1 m2 m3 m4 m0
      refine v_ild8 (q := 164) dX8_join_162 rfl ?_
      refine v_zret dX8_join_164 rfl (hfits took ht) ?_
      refine hQ' h2 _ s1' c1' s2 c2 F2 ?_ ?_ ((f1.mono (fun t e => Or.inl e)).tr (g1.mono (fun t e => Or.inr (Or.inr (Or.inr (Or.inl e)))))) (sp1.tr sp2) (by omega) (by omega)
      · unfold dueA
        rw [if_pos ⟨hc, hm⟩]
        exact G1
      · unfold pasA
        rw [if_neg (fun hh => hh.2 hm)]
        exact (D2'.fr wf1 g1 m5).mono (Nat.le_succ _)
    · have m1 : ¬ tg s k = tQ s := fun e => nQ e.symm
      have m2 : ¬ tP s = tQ s := by unfold tP tQ; omega
      have m3 : ¬ tA s = tQ s := by unfold tA tQ; omega
      have m4 : ¬ tL = tQ s := by unfold tL tQ; omega
      have m0 : ¬ 0 = tQ s := by unfold tQ; omega
      have m5 : ¬ tD s = tQ s := by unfold tQ tD; omega
      obtain ⟨F2, sp2⟩ := F1.fr g1 wf2 m1 m2 m3 m4 m0
      refine v_ild8 (q := 164) dX8_join_162 rfl ?_
      refine v_zret dX8_join_164 rfl (hfits took ht) ?_
      refine hQ' h2 _ s1 c1 s2' c2' F2 ?_ ?_ ((f1.mono (fun t e => Or.inl e)).tr (g1.mono (fun t e => Or.inr (Or.inr (Or.inr (Or.inr e)))))) (sp1.tr sp2) (by omega) (by omega)
      · unfold dueA
        rw [if_neg (fun hh => hm hh.2)]
        exact (D1'.fr wf1 g1 m5).mono (Nat.le_succ _)
      · unfold pasA
        rw [if_pos ⟨hc, hm⟩]
        exact G1
  refine v_ald5 (q := 138) dX8_join_136 rfl rfl ?_
  refine v_getI (q := 141) dX8_join_138 rfl gf_X8_156_6 (by assumption) ?_
  refine v_ild6 (q := 143) dX8_join_141 rfl ?_
  rw [f35]
  refine v_icmp_ne (t := 156) (q := 146) dX8_join_143 (by decide) rfl (fun hc => chg (fun hh => hc hh.1)) (fun hc => ?_)
  refine v_ald5 (q := 148) dX8_join_146 rfl rfl ?_
  refine v_getI (q := 151) dX8_join_148 rfl gf_X8_128_6 (by assumption) ?_
  refine v_ild7 (q := 153) dX8_join_151 rfl ?_
  rw [f36]
  refine v_icmp_eq (t := 162) (q := 156) dX8_join_153 (by decide) rfl (fun hc2 => nchg ⟨hc, hc2⟩) (fun hc2 => chg (fun hh => hc2 hh.2))
end L48
