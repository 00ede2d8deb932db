/-! 41: Windowed: give, await; the heaps of slots by what they hold -/
def backOf (s k : Nat) (rows : List Rw) (w : Wd) : List Rw :=
  match wR w with
  | none => []
  | some r => match rows[r]? with
    | none => []
    | some q => [(true, s, k, wB w, wE w, rSum q)]
/-- the heap q holds just D; sl and ce are its slots and cells, b bounds how many came in -/
def HpL (h : Hp) (ow : Nat → Nat) (T q : Nat) (D : List Int64) (sl ce b : Nat) : Prop :=
  ∃ t, HPv h q t D.length ∧ (∀ y, ctL (aL h t) D.length y = D.count y) ∧ ow q = T ∧ ow t = T ∧ sl ≤ 2 * hN h t ∧ 16 * ce ≤ 16 + hN h t ∧ D.length ≤ b ∧ hN h t ≤ 16 + 2 * b
section L41
variable {g : Gl} {d : Nat} {h : Hp} {Q : Option Value → Hp → Prop} {ow : Nat → Nat} {s p lg A q1 q2 how c k la al e : Nat} {sl ce : Nat} {rows : List Rw}
theorem gv46 {w : Nat} {v : Int32} {u : Int64} (hw : hK h w = 7) (hkey : fI h 34 w = nI k) (k1 : hK h p = 8) (k2 : fP h 17 p = some A) (k3 : hK h A = 24) (k4 : hN h A = 1000) (hk : k < 1000) (hla : aP h A k = some la) (kl : hK h la = 2)
    (hQ : Q none (sFI (sFI (sFI h 38 w v) 26 p (fI h 26 p + 1)) 28 la (fI h 28 la + 1))) : V g mX8_give (d + 6) 46 [.ref p, .ref w, .long u, zz] [.int v, .ref w] h Q := by
  refine v_putI (q := 49) dX8_give_46 rfl pf_X8_131_6 (by assumption) rfl rfl ?_
  refine v_ald0 (q := 50) dX8_give_49 rfl rfl ?_
  refine v_dup (q := 51) dX8_give_50 rfl rfl ?_
  refine v_getI (q := 54) dX8_give_51 rfl gf_X8_208_7 (by assumption) ?_
  refine v_iconst (q := 55) (v := 1) dX8_give_54 rfl (by decide) ?_
  refine v_iadd (q := 56) dX8_give_55 rfl ?_
  refine v_putI (q := 59) dX8_give_56 rfl pf_X8_208_7 (by assumption) rfl rfl ?_
  refine v_ald0 (q := 60) dX8_give_59 rfl rfl ?_
  refine v_ald1 (q := 61) dX8_give_60 rfl rfl ?_
  refine v_getI (q := 64) dX8_give_61 rfl gf_X8_194_6 (by assumption) ?_
  rw [show fI (sFI (sFI h 38 w v) 26 p (fI (sFI h 38 w v) 26 p + 1)) 34 w = nI k from hkey]
  refine v_callV (q := 67) (d' := d + 5) (av := [.int (nI k)]) dX8_give_64 rfl ok_X8_laneOf CL7 ml_X8_149 im_X8_laneOf se_X8_laneOf (by assumption) (by omega) rfl rfl (Nat.le_of_ble_eq_true rfl) ?_
  refine k_laneOfE (d := d) (A := A) (la := la) k1 k2 k3 k4 hk hla ?_
  refine v_dup (q := 68) dX8_give_67 rfl rfl ?_
  refine v_getI (q := 71) dX8_give_68 rfl gf_X8_108_1 (by assumption) ?_
  refine v_iconst (q := 72) (v := 1) dX8_give_71 rfl (by decide) ?_
  refine v_iadd (q := 73) dX8_give_72 rfl ?_
  refine v_putI (q := 76) dX8_give_73 rfl pf_X8_108_1 (by assumption) rfl rfl ?_
  refine v_vret dX8_give_76 rfl ?_
  exact hQ
theorem gv6 {Z1 Z2 : Zw} {w : Nat} {x : Wd} (hF : LnF g h ow s p lg A q1 q2 how c k la al e (Z1 ++ (w, x) :: Z2) sl ce rows) (hs6 : s < 16) (hk : k < 1000) (hh : how ≤ 5) (hro : wR x = none) (hne : wVs x ≠ []) (hl : (wVs x).length < 1000000) (hn : rows.length < 192512)
    (hQ : ∀ h' ow', LnF g h' ow' s p lg A q1 q2 how c k la al e (Z1 ++ (w, (wB x, wE x, some rows.length, wVs x)) :: Z2) sl ce (rows ++ [(false, s, k, wB x, wE x, ansV how (wVs x))]) → Fr ow ow' (S3 s k) h h' → PFl [26] p h h' → fI h' 26 p = fI h 26 p + 1 → hs h' + lgS rows.length ≤ hs h + lgS (rows.length + 1) → hz h' + lgZ rows.length ≤ hz h + lgZ (rows.length + 1) → Q none h') :
    V g mX8_give (d + 8) 6 [.ref p, .ref w, zz, zz] [] h Q := by
  obtain ⟨k1, k2, k3, k4, hla, kl, klg, k5, k6, k7, wf⟩ := hF.kd
  have hx := hF.2.2.2.1.2.2.2.2.1 (w, x) (List.mem_append_right _ List.mem_cons_self)
  have kw : hK h w = 7 := hx.1
  refine v_ald1 (q := 7) dX8_give_6 rfl rfl ?_
  refine v_getI (q := 10) dX8_give_7 rfl gf_X8_194_6 (by assumption) ?_
  refine v_ald1 (q := 11) dX8_give_10 rfl rfl ?_
  refine v_getI (q := 14) dX8_give_11 rfl gf_X8_156_6 (by assumption) ?_
  refine v_ald1 (q := 15) dX8_give_14 rfl rfl ?_
  refine v_getI (q := 18) dX8_give_15 rfl gf_X8_128_6 (by assumption) ?_
  rw [hx.2.2.1, hx.2.2.2.1, hx.2.2.2.2.1]
  refine v_callS (q := 21) (d' := d + 7) (av := [.int (nI k), .int (wB x), .int (wE x)]) dX8_give_18 rfl ok_X0_slot ml_X8_197 st_X0_slot (by omega) rfl rfl (Nat.le_of_ble_eq_true rfl) ?_
  refine k_slot ?_
  refine v_lst2 (q := 22) dX8_give_21 rfl (by decide) rfl ?_
  refine v_ald1 (q := 23) dX8_give_22 rfl rfl ?_
  refine v_ald0 (q := 24) dX8_give_23 rfl rfl ?_
  refine v_getR (q := 27) dX8_give_24 rfl gf_X8_49_7 (by assumption) (by assumption) ?_
  refine v_lld2 (q := 28) dX8_give_27 rfl ?_
  refine v_ald0 (q := 29) dX8_give_28 rfl rfl ?_
  refine v_getI (q := 32) dX8_give_29 rfl gf_X8_29_7 (by assumption) ?_
  rw [k6]
  refine v_callS (q := 35) (d' := d + 7) (av := [.long (cSlot (nI k) (wB x) (wE x)), .int (nI s)]) dX8_give_32 rfl ok_X0_put ml_X8_201 st_X0_put (by omega) rfl rfl (Nat.le_of_ble_eq_true rfl) ?_
  refine k_put ?_
  refine v_ald1 (q := 36) dX8_give_35 rfl rfl ?_
  refine v_ald0 (q := 37) dX8_give_36 rfl rfl ?_
  refine v_getI (q := 40) dX8_give_37 rfl gf_X8_140_7 (by assumption) ?_
  rw [k7]
  refine v_callV (q := 43) (d' := d + 7) (av := [.int (nI how)]) dX8_give_40 rfl ok_X7_answer CL6 ml_X8_143 im_X7_answer se_X7_answer (by assumption) (by omega) rfl rfl (Nat.le_of_ble_eq_true rfl) ?_
  refine k_wAnswer hx hh hne hl ?_
  refine v_callV (q := 46) (d' := d + 7) (av := [.long (cPut (cSlot (nI k) (wB x) (wE x)) (nI s)), .long (ansV how (wVs x))]) dX8_give_43 rfl ok_X3_add CL3 ml_X8_205 im_X3_add se_X3_add (by assumption) (by omega) rfl rfl (Nat.le_of_ble_eq_true rfl) ?_
  refine k_logAddV (d := d + 6) (r := (false, s, k, wB x, wE x, ansV how (wVs x))) hF.2.2.2.2.2.2.1 wf hn rfl rfl (fun h1 l1 f1 wf1 c1 c2 => ?_)
  have nT : ¬ tg s k = tL := by unfold tg tL; omega
  have nP : ¬ tP s = tL := by unfold tP tL; omega
  have nA : ¬ tA s = tL := by unfold tA tL; omega
  have lt := hF.1.lt wf
  have sp : sameAt h h1 p := f1.2.2 p lt.1 (by rw [hF.1.2.1]; exact nP)
  have sA : sameAt h h1 A := f1.2.2 A lt.2 (by rw [hF.1.2.2.2.2.2.2.2.2.2]; exact nA)
  have sl : sameAt h h1 la := f1.2.2 la (wf la (by rw [kl]; decide)) (by rw [hF.2.2.2.1.2.1]; exact nT)
  have sw : sameAt h h1 w := f1.2.2 w (hx.lt wf) (by rw [hx.2.1]; exact nT)
  have hc := cntR_some (Z1 := Z1) (Z2 := Z2) (w := w) (r := rows.length) (b := wB x) (e2 := wE x) (v := wVs x)
  have ex : x = (wB x, wE x, none, wVs x) := by
    rw [← hro]
    rfl
  rw [← ex] at hc
  obtain ⟨r1, r2, r3⟩ := hF.row (ro := some rows.length) (u := fI h1 26 p + 1) (m := fI h1 28 la + 1) hs6 hk f1 l1 wf1 (by rw [sl.2.2.1 28, hF.2.2.2.2.1, hc]; exact nI_1 _)
  refine gv46 (d := d + 2) (k := k) (A := A) (la := la) (sw.1.trans kw) ((sw.2.2.1 34).trans hx.2.2.1) (sp.1.trans k1) ((sp.2.2.2.2.1 17).trans k2) (sA.1.trans k3) (sA.2.1.trans k4) hk (by rw [sA.2.2.2.2.2.2.2]; exact hla) (sl.1.trans kl) ?_
  have npl : p ≠ la := fun e => by rw [e, kl] at k1; omega
  refine hQ _ _ r1 r2 r3 ?_ c1 c2
  rw [fi_na _ _ _ _ npl, fi_eq, sp.2.2.1 26]
theorem k_give {Z1 Z2 : Zw} {w : Nat} {x : Wd} (hF : LnF g h ow s p lg A q1 q2 how c k la al e (Z1 ++ (w, x) :: Z2) sl ce rows) (hs6 : s < 16) (hk : k < 1000) (hh : how ≤ 5) (hr : ∀ r, wR x = some r → ∃ y, rows[r]? = some (false, s, k, wB x, wE x, y)) (hne : wVs x ≠ []) (hl : (wVs x).length < 1000000) (hn : rows.length + 1 < 192512)
    (hQ : ∀ h' ow', LnF g h' ow' s p lg A q1 q2 how c k la al e (Z1 ++ (w, (wB x, wE x, some (rows ++ backOf s k rows x).length, wVs x)) :: Z2) sl ce (rows ++ backOf s k rows x ++ [(false, s, k, wB x, wE x, ansV how (wVs x))]) → Fr ow ow' (S3 s k) h h' → PFl [26] p h h' → fI h' 26 p = fI h 26 p - nI (backOf s k rows x).length + 1 → hs h' + lgS rows.length ≤ hs h + lgS ((rows ++ backOf s k rows x).length + 1) → hz h' + lgZ rows.length ≤ hz h + lgZ ((rows ++ backOf s k rows x).length + 1) → Q none h') :
    Call g mX8_give (d + 8) [.ref p, .ref w] h Q := by
  obtain ⟨k1, k2, k3, k4, hla, kl, klg, k5, k6, k7, wf⟩ := hF.kd
  refine Call.of [.ref p, .ref w, zz, zz] (by decide) (Nat.le_of_ble_eq_true rfl) rfl ?_
  refine v_ald0 (q := 1) dX8_give_0 rfl rfl ?_
  refine v_ald1 (q := 2) dX8_give_1 rfl rfl ?_
  refine v_callV (q := 5) (d' := d + 7) (av := [.ref w]) dX8_give_2 rfl ok_X8_takeBack CL7 ml_X8_179 im_X8_takeBack se_X8_takeBack (by assumption) (by omega) rfl rfl (Nat.le_of_ble_eq_true rfl) ?_
  refine k_takeBack (d := d) hF hs6 hk hr (by omega) (fun hro => ?_) (fun r y h1 ow1 hro hy F1 f1 p1 l1 c1 c2 => ?_)
  · have eb : backOf s k rows x = [] := by unfold backOf; rw [hro]
    rw [eb, List.append_nil] at hQ
    refine v_pop (q := 6) dX8_give_5 rfl rfl ?_
    refine gv6 (d := d) hF hs6 hk hh hro hne hl (by omega) (fun h' ow' F2 f2 p2 l2 c3 c4 => hQ h' ow' F2 f2 p2 ?_ c3 c4)
    rw [l2, show nI ([] : List Rw).length = (0 : Int32) from rfl, Int32.sub_zero]
  · have eb : backOf s k rows x = [(true, s, k, wB x, wE x, y)] := by
      unfold backOf
      rw [hro]
      show (match rows[r]? with | none => [] | some q => [(true, s, k, wB x, wE x, rSum q)]) = _
      rw [hy]
      rfl
    rw [eb] at hQ
    refine v_pop (q := 6) dX8_give_5 rfl rfl ?_
    refine gv6 (d := d) F1 hs6 hk hh rfl hne hl (by rw [List.length_append, List.length_singleton]; omega) (fun h' ow' F2 f2 p2 l2 c3 c4 => hQ h' ow' F2 (f1.tr f2) (p1.tr p2 (fun _ h => h) (fun _ h => h)) ?_ ?_ ?_)
    · rw [l2, l1]
      rfl
    · rw [List.length_append, List.length_singleton] at c3 ⊢
      omega
    · rw [List.length_append, List.length_singleton] at c4 ⊢
      omega
theorem HpL.fr {h' : Hp} {ow' : Nat → Nat} {S : Nat → Prop} {T q b : Nat} {D : List Int64} (x : HpL h ow T q D sl ce b) (wf : Wf h) (f : Fr ow ow' S h h') (hT : ¬ S T) : HpL h' ow' T q D sl ce b := by
  obtain ⟨t, ⟨⟨x1, x2, x3, x4, x5, x6, x7⟩, x8⟩, x9, x10, x11, x12, x13, x14, x15⟩ := x
  have hq : q < hz h := wf q (by rw [x1]; decide)
  have ht : t < hz h := wf t (by rw [x3]; decide)
  have sq := f.2.2 q hq (by rw [x10]; exact hT)
  have st := f.2.2 t ht (by rw [x11]; exact hT)
  refine ⟨t, ⟨⟨sq.1.trans x1, (sq.2.2.2.2.1 29).trans x2, st.1.trans x3, (sq.2.2.1 30).trans x4, by rw [st.2.1]; exact x5, by rw [st.2.1]; exact x6, by rw [st.2.1]; exact x7⟩, by rw [st.2.2.2.2.2.2.1]; exact x8⟩, by rw [st.2.2.2.2.2.2.1]; exact x9, (f.2.1 q hq).trans x10, (f.2.1 t ht).trans x11, by rw [st.2.1]; exact x12, by rw [st.2.1]; exact x13, x14, by rw [st.2.1]; exact x15⟩
theorem k_hpAdd {T q b : Nat} {D : List Int64} {x : Int64} (hP : HpL h ow T q D sl ce b) (wf : Wf h) (hn : b < 400000)
    (hQ : ∀ h' sl' ce', HpL h' (owX ow h T) T q (x :: D) sl' ce' (b + 1) → Fr ow (owX ow h T) (fun t => t = T) h h' → Wf h' → hs h' + sl ≤ hs h + sl' → hz h' + ce ≤ hz h + ce' → Q none h') : Call g mX2_add (d + 2) [.ref q, .long x] h Q := by
  obtain ⟨t, x8, x9, x10, x11, x12, x13, x14, x15⟩ := hP
  have hq : q < hz h := wf q (by rw [x8.1.1]; decide)
  have ht : t < hz h := wf t (by rw [x8.1.2.2.1]; decide)
  refine k_lfAdd x8 wf (by omega) (fun h' t' y1 y2 y3 y4 y5 y6 => ?_)
  have cnt : ∀ y, ctL (aL h' t') (x :: D).length y = (x :: D).count y := fun y => by
    rw [List.count_cons, List.length_cons, y2, x9]
    congr 1
    by_cases e : x = y
    · simp [e]
    · simp [e]
  have fr : Fr ow (owX ow h T) (fun t => t = T) h h' := Fr.of y3 (fun a _ ha => ha.elim (fun e => e ▸ x10) (fun e => e ▸ x11))
  rcases y5 with ⟨e1, e2, e3, hs5⟩ | ⟨e1, e2, e3, e4, e5⟩
  · subst e1
    refine hQ h' sl ce ⟨t', y1, cnt, (if_pos hq).trans x10, (if_pos ht).trans x11, by rw [hs5]; exact x12, by rw [hs5]; exact x13, by rw [List.length_cons]; omega, by rw [hs5]; omega⟩ fr y4 (by omega) (by omega)
  · refine hQ h' (sl + 2 * D.length) (ce + 1) ⟨t', y1, cnt, (if_pos hq).trans x10, by rw [e1]; exact if_neg (Nat.lt_irrefl _), by rw [e5]; omega, by have h16 := x8.1.2.2.2.2.2.1; rw [e5]; omega, by rw [List.length_cons]; omega, by rw [e5]; omega⟩ fr y4 (by omega) (by omega)
end L41
