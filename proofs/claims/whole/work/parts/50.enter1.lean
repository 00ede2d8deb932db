/-! 50: Windowed: enter, from where the window stands -/
def finW (s k how : Nat) (gv : Prop) [Decidable gv] (rows : List Rw) (x : Wd) : Wd × List Rw :=
  if gv then ((wB x, wE x, some (rows ++ backOf s k rows x).length, wVs x), rows ++ backOf s k rows x ++ [(false, s, k, wB x, wE x, ansV how (wVs x))]) else (x, rows)
def adV (x : Wd) (v : Int64) : Wd := (wB x, wE x, wR x, v :: wVs x)
/-- how the number of rows left changes with it -/
def finL (s k : Nat) (gv : Prop) [Decidable gv] (rows : List Rw) (x : Wd) (n : Int32) : Int32 := if gv then n - nI (backOf s k rows x).length + 1 else n
section L50
variable {g : Gl} {d : Nat} {h : Hp} {Q : Option Value → Hp → Prop} {ow : Nat → Nat} {s p lg A q1 q2 how c k la al e : Nat} {sl ce : Nat} {rows : List Rw}
theorem cost_add {Z1 Z2 : Zw} {w : Nat} {x x' : Wd} {h1 : Hp} {n ds dc : Nat} (hC : LCost h e c (Z1 ++ (w, x) :: Z2) sl ce) (ee : capE h1 e = capE h e) (ez : ∀ z, z ∈ Z1 ∨ z ∈ Z2 → capO h1 (fP h1 40 z.1) = capO h (fP h 40 z.1)) (e1 : (wVs x).length = n) (e3 : (wVs x').length = n + 1)
    (c1 : ds + 2 * capO h (fP h 40 w) ≤ 2 * capO h1 (fP h1 40 w)) (c2 : dc ≤ 1) : LCost h1 e c (Z1 ++ (w, x') :: Z2) (sl + ds + 8) (ce + dc + 2) := by
  obtain ⟨d1, d2, d3⟩ := hC
  have eA : ∀ Z : Zw, (∀ z ∈ Z, z ∈ Z1 ∨ z ∈ Z2) → zC h1 c Z = zC h c Z := fun Z hZ => by
    unfold zC
    congr 1
    refine List.map_congr_left (fun z hz => ?_)
    rw [ez z (hZ z hz)]
  have z1 := eA Z1 (fun z hz => Or.inl hz)
  have z2 := eA Z2 (fun z hz => Or.inr hz)
  have l := Nat.mul_le_mul (Nat.le_refl c) (lam_mono (a := n))
  have l8 : c * (8 * lam n) ≤ c * (8 * lam (n + 1)) := Nat.mul_le_mul (Nat.le_refl c) (Nat.mul_le_mul (Nat.le_refl 8) (lam_mono (a := n)))
  have a1 : zC h c (Z1 ++ (w, x) :: Z2) = zC h c Z1 + ((8 * n + c * (8 * lam n) + 2 * capO h (fP h 40 w)) + zC h c Z2) := by
    unfold zC
    simp only [List.map_append, List.map_cons, List.sum_append, List.sum_cons, e1]
  have a2 : zC h1 c (Z1 ++ (w, x') :: Z2) = zC h1 c Z1 + ((8 * (n + 1) + c * (8 * lam (n + 1)) + 2 * capO h1 (fP h1 40 w)) + zC h1 c Z2) := by
    unfold zC
    simp only [List.map_append, List.map_cons, List.sum_append, List.sum_cons, e3]
  have a3 : zD c (Z1 ++ (w, x) :: Z2) = zD c Z1 + ((3 * n + c * lam n) + zD c Z2) := by
    unfold zD
    simp only [List.map_append, List.map_cons, List.sum_append, List.sum_cons, e1]
  have a4 : zD c (Z1 ++ (w, x') :: Z2) = zD c Z1 + ((3 * (n + 1) + c * lam (n + 1)) + zD c Z2) := by
    unfold zD
    simp only [List.map_append, List.map_cons, List.sum_append, List.sum_cons, e3]
  have a5 : zN (Z1 ++ (w, x') :: Z2) = zN (Z1 ++ (w, x) :: Z2) + 1 := by
    unfold zN
    simp only [List.map_append, List.map_cons, List.sum_append, List.sum_cons, e1, e3]
    omega
  unfold LCost
  rw [ee, a2, a4, z1, z2, a5]
  rw [a1] at d1
  rw [a3] at d2
  refine ⟨?_, ?_, ?_⟩ <;> omega
theorem LnF.add {Z1 Z2 : Zw} {w : Nat} {x x' : Wd} {h1 : Hp} (hF : LnF g h ow s p lg A q1 q2 how c k la al e (Z1 ++ (w, x) :: Z2) sl ce rows) (hs6 : s < 16) (hk : k < 1000) (hr : wR x' = wR x) (e3 : (wVs x').length = (wVs x).length + 1)
    (a1 : WdV h1 (owX ow h (tg s k)) (tg s k) how k w x') (a2 : Smo (fun a => a = w ∨ fP h 40 w = some a) h h1) (a3 : Wf h1) (a4 : ∀ t, fP h1 40 w = some t → fP h 40 w = some t ∨ hz h ≤ t) (a5 : hs h1 + 2 * capO h (fP h 40 w) ≤ hs h + 2 * capO h1 (fP h1 40 w)) (a6 : hz h1 ≤ hz h + 1) (hs2 : hs h ≤ hs h1) :
    LnF g h1 (owX ow h (tg s k)) s p lg A q1 q2 how c k la al e (Z1 ++ (w, x') :: Z2) (sl + (hs h1 - hs h) + 8) (ce + (hz h1 - hz h) + 2) rows ∧ Fr ow (owX ow h (tg s k)) (fun t => t = tg s k) h h1 ∧ sameAt h h1 p := by
  obtain ⟨x1, x2, x3, x4, x5, x6, x7, x8⟩ := hF
  have nT : ¬ tL = tg s k := by unfold tg tL; omega
  have nP : ¬ tP s = tg s k := by unfold tP tg; omega
  have nA : ¬ tA s = tg s k := by unfold tA tg; omega
  have n0 : ¬ (0 : Nat) = tg s k := by unfold tg; omega
  have hw := x4.2.2.2.2.1 (w, x) (by simp)
  have f : Fr ow (owX ow h (tg s k)) (fun t => t = tg s k) h h1 := Fr.of a2 (fun a _ ha => ha.elim (fun e => e ▸ hw.2.1) (fun e => (hw.row e).2))
  have lt := x1.lt x8.1
  have sp : sameAt h h1 p := f.2.2 p lt.1 (by rw [x1.2.1]; exact nP)
  have sA : sameAt h h1 A := f.2.2 A lt.2 (by rw [x1.2.2.2.2.2.2.2.2.2]; exact nA)
  have ke := x4.1.row27 (by simp)
  have ze : e < hz h := x8.1 e (by rw [ke]; decide)
  have k2 : ∀ a, a < hz h → hK h a ≠ 7 → hK h a ≠ 22 → sameAt h h1 a := fun a ha m1 m2 => a2.2 a ha (fun hh => by
    rcases hh with hh | hh
    · exact m1 (hh ▸ hw.1)
    · exact m2 (hw.row hh).1)
  have se := k2 e ze (by rw [ke]; decide) (by rw [ke]; decide)
  have sl2 := k2 la (x8.1 la (by rw [x4.1.1]; decide)) (by rw [x4.1.1]; decide) (by rw [x4.1.1]; decide)
  have z4 := x4.upd (w' := x') x8 a2 (fun a ha => if_pos ha) a1 a4
  have sz : ∀ z, z ∈ Z1 ∨ z ∈ Z2 → capO h1 (fP h1 40 z.1) = capO h (fP h 40 z.1) := fun z hz => by
    obtain ⟨x5', x6'⟩ := x4.ws
    have hpw := List.pairwise_append.mp x6'
    have hB := List.pairwise_cons.mp hpw.2.1
    have dz : z ∈ Z1 ++ (w, x) :: Z2 ∧ z.1 ≠ w ∧ ∀ t, fP h 40 z.1 = some t → fP h 40 w ≠ some t := by
      rcases hz with hz | hz
      · exact ⟨List.mem_append_left _ hz, (hpw.2.2 z hz (w, x) List.mem_cons_self).1, (hpw.2.2 z hz (w, x) List.mem_cons_self).2⟩
      · exact ⟨List.mem_append_right _ (List.mem_cons_of_mem _ hz), fun e => (hB.1 z hz).1 e.symm, fun t h1 h2 => (hB.1 z hz).2 t h2 h1⟩
    have hx := x5' z dz.1
    have s12 : sameAt h h1 z.1 := a2.2 _ (hx.lt x8.1) (fun hh => by
      rcases hh with hh | hh
      · exact dz.2.1 hh
      · have := (hw.row hh).1
        rw [hx.1] at this
        omega)
    rw [s12.2.2.2.2.1 40]
    match ht : fP h 40 z.1 with
    | none => rfl
    | some t =>
      have hr := hx.row ht
      have st : sameAt h h1 t := a2.2 t (x8.1 t (by rw [hr.1]; decide)) (fun hh => by
        rcases hh with hh | hh
        · have := hw.1
          rw [← hh, hr.1] at this
          omega
        · exact dz.2.2 t ht hh)
      exact st.2.1
  refine ⟨⟨x1.on (PFl.of sp) (by decide) (f.2.1 p lt.1) (f.2.1 A lt.2) sA.1 sA.2.1, (sp.2.2.1 20).trans x2, by rw [sA.2.2.2.2.2.2.2]; exact x3, z4, ?_, ?_, x7.fr x8.1 f nT, x8.fr f n0 a3⟩, f, sp⟩
  · rw [sl2.2.2.1 28, x5]
    congr 1
    unfold cntR
    simp only [List.countP_append, List.countP_cons, hr]
  · refine cost_add x6 ?_ sz rfl e3 (by omega) (by omega)
    unfold capE
    rw [se.1, se.2.1]
theorem finW_len {gv : Prop} [Decidable gv] {x : Wd} : rows.length ≤ (finW s k how gv rows x).2.length := by
  unfold finW
  split
  · simp only [List.length_append]
    omega
  · exact Nat.le_refl _
theorem S3_S5 {t : Nat} (e : S3 s k t) : S5 s k t := by
  unfold S3 at e
  unfold S5
  rcases e with e | e | e
  · exact Or.inl e
  · exact Or.inr (Or.inl e)
  · exact Or.inr (Or.inr (Or.inl e))
/-- enter, from where the event is added to the window -/
theorem en163 {Z1 Z2 : Zw} {w ea : Nat} {x : Wd} {key b e0 i took mk : Int32} {v : Int64} {u6 : Value} (hF : LnF g h ow s p lg A q1 q2 how c k la al e (Z1 ++ (w, x) :: Z2) sl ce rows) (hs6 : s < 16) (hk : k < 1000) (hh : how ≤ 5) (hr : RowOK s k rows x) (hl : (wVs x).length + 1 < 1000000) (hn : rows.length + 1 < 192512) (ht : took = 0 ∨ took = 1) (fm : fI h 1 p = mk) (fe : fI h 22 p = nI ea) (hea : ea < 2147483648)
    (hQ : ∀ h' ow' sl' ce' gv, ∀ [Decidable gv], (gv ↔ took = 1 ∨ wE x ≤ mk ∨ (0 < ea ∧ ((wVs x).length + 1) % ea = 0)) → LnF g h' ow' s p lg A q1 q2 how c k la al e (Z1 ++ (w, (finW s k how gv rows (adV x v)).1) :: Z2) sl' ce' (finW s k how gv rows (adV x v)).2 → Fr ow ow' (S3 s k) h h' → PFl [25, 26] p h h' → fI h' 25 p = fI h 25 p + 1 → fI h' 26 p = finL s k gv rows (adV x v) (fI h 26 p) → hs h' + sl + 8 + lgS rows.length ≤ hs h + sl' + lgS (finW s k how gv rows (adV x v)).2.length → hz h' + ce + 2 + lgZ rows.length ≤ hz h + ce' + lgZ (finW s k how gv rows (adV x v)).2.length → Q none h') :
    V g mX8_enter (d + 9) 163 [.ref p, .int key, .int b, .long v, zz, .int e0, u6, .int i, .ref w, .int took] [] h Q := by
  obtain ⟨k1, k2, k3, k4, hla, kl, klg, k5, k6, k7, wf⟩ := hF.kd
  have hx := hF.2.2.2.1.2.2.2.2.1 (w, x) (by simp)
  have kw : hK h w = 7 := hx.1
  refine v_ald8 (q := 165) dX8_enter_163 rfl rfl ?_
  refine v_lld3 (q := 166) dX8_enter_165 rfl ?_
  refine v_ald0 (q := 167) dX8_enter_166 rfl rfl ?_
  refine v_getI (q := 170) dX8_enter_167 rfl gf_X8_140_7 (by assumption) ?_
  rw [k7]
  refine v_callV (q := 173) (d' := d + 8) (av := [.long v, .int (nI how)]) dX8_enter_170 rfl ok_X7_add CL6 ml_X8_173 im_X7_add se_X7_add (by assumption) (by omega) rfl rfl (Nat.le_of_ble_eq_true rfl) ?_
  refine Call.ext ?_
  refine k_wAdd (d := d + 5) hx wf hh hl (fun h1 a1 a2 a3 a4 a5 a6 hX => ?_)
  obtain ⟨F1, f1, sp1⟩ := hF.add (x' := adV x v) hs6 hk rfl (by simp [adV, wVs]) a1 a2 a3 a4 a5 a6 hX.2.1
  obtain ⟨F2, f2, p2⟩ := F1.setP (f := 25) (v := fI h1 25 p + 1) hs6 hk (by decide) (by decide)
  have kp1 : hK h1 p = 8 := F1.1.1
  refine v_ald0 (q := 174) dX8_enter_173 rfl rfl ?_
  refine v_dup (q := 175) dX8_enter_174 rfl rfl ?_
  refine v_getI (q := 178) dX8_enter_175 rfl gf_X8_100_7 (by assumption) ?_
  refine v_iconst (q := 179) (v := 1) dX8_enter_178 rfl (by decide) ?_
  refine v_iadd (q := 180) dX8_enter_179 rfl ?_
  refine v_putI (q := 183) dX8_enter_180 rfl pf_X8_100_7 (by assumption) rfl rfl ?_
  have z1 : hs (sFI h1 25 p (fI h1 25 p + 1)) = hs h1 := rfl
  have z2 : hz (sFI h1 25 p (fI h1 25 p + 1)) = hz h1 := rfl
  have o25 : fI (sFI h1 25 p (fI h1 25 p + 1)) 25 p = fI h 25 p + 1 := by rw [fi_eq, sp1.2.2.1 25]
  have pf2 : PFl [25] p h (sFI h1 25 p (fI h1 25 p + 1)) := ((PFl.of sp1).mono (fun _ h => absurd h List.not_mem_nil)).tr p2 (fun _ h => h) (fun _ h => h)
  have fr2 : Fr ow (owX ow h (tg s k)) (S3 s k) h (sFI h1 25 p (fI h1 25 p + 1)) := (f1.mono (fun t e => Or.inl e)).tr (f2.mono (fun t e => Or.inr (Or.inl e)))
  generalize sFI h1 25 p (fI h1 25 p + 1) = h2 at *
  have hx2 := F2.2.2.2.1.2.2.2.2.1 (w, adV x v) (by simp)
  have kw2 : hK h2 w = 7 := hx2.1
  have kp2 : hK h2 p = 8 := F2.1.1
  have e36 : fI h2 36 w = wE x := hx2.2.2.2.2.1
  have e37 : fI h2 37 w = nI ((wVs x).length + 1) := hx2.2.2.2.2.2.1
  have m2 : fI h2 1 p = mk := (pf2.2.1 1 (by decide)).trans fm
  have ea2 : fI h2 22 p = nI ea := (pf2.2.1 22 (by decide)).trans fe
  have c1' : hz h ≤ hz h1 := hX.1
  have c2' : hs h ≤ hs h1 := hX.2.1
  have no : ¬ (took = 1 ∨ wE x ≤ mk ∨ (0 < ea ∧ ((wVs x).length + 1) % ea = 0)) → V g mX8_enter (d + 9) 226 [.ref p, .int key, .int b, .long v, zz, .int e0, u6, .int i, .ref w, .int took] [] h2 Q := fun hc => by
    refine v_vret dX8_enter_226 rfl ?_
    have ef : finW s k how False rows (adV x v) = (adV x v, rows) := if_neg (fun h => h)
    refine hQ h2 _ _ _ False ⟨fun h => absurd h (fun h => h), fun h => absurd h hc⟩ (by rw [ef]; exact F2) fr2 (pf2.mono (fun f hf => by simp at hf; simp [hf])) o25 ?_ (by rw [ef]; show _ ≤ _ + lgS rows.length; omega) (by rw [ef]; show _ ≤ _ + lgZ rows.length; omega)
    rw [pf2.2.1 26 (by decide)]
    exact (if_neg (fun h => h)).symm
  have yes : (took = 1 ∨ wE x ≤ mk ∨ (0 < ea ∧ ((wVs x).length + 1) % ea = 0)) → V g mX8_enter (d + 9) 220 [.ref p, .int key, .int b, .long v, zz, .int e0, u6, .int i, .ref w, .int took] [] h2 Q := fun hc => by
    refine v_ald0 (q := 221) dX8_enter_220 rfl rfl ?_
    refine v_ald8 (q := 223) dX8_enter_221 rfl rfl ?_
    refine v_callV (q := 226) (d' := d + 8) (av := [.ref w]) dX8_enter_223 rfl ok_X8_give CL7 ml_X8_86 im_X8_give se_X8_give (by assumption) (by omega) rfl rfl (Nat.le_of_ble_eq_true rfl) ?_
    have hra : RowOK s k rows (adV x v) := hr
    refine k_give (d := d) F2 hs6 hk hh hra (List.cons_ne_nil _ _) (by simp only [adV, wVs, List.length_cons]; unfold wVs at hl; omega) hn (fun h3 ow3 F3 f3 p3 l3 y1 y2 => ?_)
    refine v_vret dX8_enter_226 rfl ?_
    have ef : finW s k how True rows (adV x v) = ((wB (adV x v), wE (adV x v), some (rows ++ backOf s k rows (adV x v)).length, wVs (adV x v)), rows ++ backOf s k rows (adV x v) ++ [(false, s, k, wB (adV x v), wE (adV x v), ansV how (wVs (adV x v)))]) := if_pos trivial
    have el : (rows ++ backOf s k rows (adV x v) ++ [(false, s, k, wB (adV x v), wE (adV x v), ansV how (wVs (adV x v)))]).length = (rows ++ backOf s k rows (adV x v)).length + 1 := by rw [List.length_append, List.length_singleton]
    refine hQ h3 ow3 _ _ True ⟨fun _ => hc, fun _ => trivial⟩ (by rw [ef]; exact F3) (fr2.tr f3) ((pf2.mono (fun f hf => by simp at hf; simp [hf])).tr (p3.mono (fun f hf => by simp at hf; simp [hf])) (fun _ h => h) (fun _ h => h)) ((p3.2.1 25 (by decide)).trans o25) ?_ ?_ ?_
    · rw [l3, pf2.2.1 26 (by decide)]
      exact (if_pos trivial).symm
    · rw [ef]
      show _ ≤ _ + lgS (rows ++ backOf s k rows (adV x v) ++ [(false, s, k, wB (adV x v), wE (adV x v), ansV how (wVs (adV x v)))]).length
      rw [el]
      omega
    · rw [ef]
      show _ ≤ _ + lgZ (rows ++ backOf s k rows (adV x v) ++ [(false, s, k, wB (adV x v), wE (adV x v), ansV how (wVs (adV x v)))]).length
      rw [el]
      omega
  refine v_ild9 (q := 185) dX8_enter_183 rfl ?_
  refine v_if_ne (t := 220) (q := 188) dX8_enter_185 (by decide) rfl (fun hc => yes (Or.inl (ht.resolve_left hc))) (fun hc => ?_)
  have ht0 : ¬ took = 1 := fun e => by rw [e] at hc; exact absurd hc (by decide)
  refine v_ald8 (q := 190) dX8_enter_188 rfl rfl ?_
  refine v_getI (q := 193) dX8_enter_190 rfl gf_X8_128_6 (by assumption) ?_
  refine v_ald0 (q := 194) dX8_enter_193 rfl rfl ?_
  refine v_getI (q := 197) dX8_enter_194 rfl gf_X8_63_7 (by assumption) ?_
  rw [e36, m2]
  refine v_icmp_le (t := 220) (q := 200) dX8_enter_197 (by decide) rfl (fun hc => yes (Or.inr (Or.inl hc))) (fun hc2 => ?_)
  refine v_ald0 (q := 201) dX8_enter_200 rfl rfl ?_
  refine v_getI (q := 204) dX8_enter_201 rfl gf_X8_176_7 (by assumption) ?_
  rw [ea2]
  by_cases h0 : 0 < ea
  · refine v_if_le (t := 226) (q := 207) dX8_enter_204 (by decide) rfl (fun hc => absurd hc (nI_nle h0 (by omega))) (fun _ => ?_)
    refine v_ald8 (q := 209) dX8_enter_207 rfl rfl ?_
    refine v_getI (q := 212) dX8_enter_209 rfl gf_X8_103_6 (by assumption) ?_
    refine v_ald0 (q := 213) dX8_enter_212 rfl rfl ?_
    refine v_getI (q := 216) dX8_enter_213 rfl gf_X8_176_7 (by assumption) ?_
    rw [e37, ea2]
    refine v_irem (q := 217) dX8_enter_216 rfl (nI_ne0 h0 (by omega)) ?_
    rw [pk_rem (by omega) h0 (by omega)]
    have hm : ((wVs x).length + 1) % ea < 2147483648 := by
      have := Nat.mod_le ((wVs x).length + 1) ea
      omega
    refine v_if_ne (t := 226) (q := 220) dX8_enter_217 (by decide) rfl (fun hc => no (fun hh => ?_)) (fun hc => yes (Or.inr (Or.inr ⟨h0, ?_⟩)))
    · rcases hh with hh | hh | hh
      · exact ht0 hh
      · exact hc2 hh
      · exact hc (by rw [hh.2]; rfl)
    · exact (nI_eq (b := 0) hm (by decide)).mp hc
  · have : ea = 0 := by omega
    refine v_if_le (t := 226) (q := 207) dX8_enter_204 (by decide) rfl (fun _ => no (fun hh => ?_)) (fun hc => absurd (by rw [this]; decide) hc)
    rcases hh with hh | hh | hh
    · exact ht0 hh
    · exact hc2 hh
    · exact h0 hh.1
end L50
