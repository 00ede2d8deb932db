/-! 64: Windowed: take -/
def begs : Nat → Int32 → Int32 → Int32 → List Int32
  | 0, _, _, _ => []
  | n + 1, b, st, m => if b ≤ m then b :: begs n (b + st) st m else []
def fstB (ses : Bool) (sp st m : Int32) : Int32 := if ses then m else Int32.ofInt ((m.toInt - sp.toInt) / st.toInt * st.toInt + st.toInt)
def tkS (ses : Bool) (s how ea : Nat) (sp st lt mk : Int32) (k : Nat) (m : Int32) (v : Int64) (X : (Nat → List Wd) × List Rw × Nat) : (Nat → List Wd) × List Rw × Nat :=
  (begs 4 (fstB ses sp st m) st m).foldl (enS ses s how ea sp lt mk k v) X
section L64
variable {g : Gl} {d : Nat} {h : Hp} {Q : Option Value → Hp → Prop} {ow : Nat → Nat} {s p lg A q1 q2 how ea k : Nat} {ses : Bool} {sp st lt mk : Int32}
theorem WS.set {dr US UZ f : Nat} {u : Int32} {ln : Nat → List Wd} {rows : List Rw} (hW : WS g h ow s p lg A q1 q2 ses how ea sp st lt mk dr ln rows US UZ) (hs6 : s < 16) (hf : f = 2 ∨ f = 4 ∨ f = 5) : WS g (sFI h f p u) ow s p lg A q1 q2 ses how ea sp st lt mk dr ln rows US UZ ∧ Fr ow ow (fun t => t = tP s) h (sFI h f p u) ∧ PFl [f] p h (sFI h f p u) := by
  obtain ⟨ac, D1, D2, s1, c1, b1, s2, c2, b2, ⟨hC, h20, hL, hLog, hD1, hD2, gd⟩, ⟨f1, f13, f14, f15, f21, f22, f23⟩, ⟨f24, f25, f26⟩, hI, hD, hb1, hb2, eS, eZ⟩ := hW
  have frP : Fr ow ow (fun t => t = tP s) h (sFI h f p u) := Fr.of0 (P := fun a => a = p) (Smo_sFI rfl) (fun a _ e => e ▸ hC.2.1)
  have pf : PFl [f] p h (sFI h f p u) := ⟨rfl, fun f' hf => fi_ne _ _ _ _ (fun e => hf (by rw [e]; exact List.mem_singleton.mpr rfl)), fun _ => rfl⟩
  have n0 : ¬ (0 : Nat) = tP s := by unfold tP; omega
  have ne : ∀ f', f' ≠ 2 → f' ≠ 4 → f' ≠ 5 → fI (sFI h f p u) f' p = fI h f' p := fun f' a b c => fi_ne _ _ _ _ (fun e => by omega)
  refine ⟨⟨ac, D1, D2, s1, c1, b1, s2, c2, b2, ⟨hC.on pf (fun e => by have := List.mem_singleton.mp e; omega) rfl rfl rfl rfl, (ne 20 (by decide) (by decide) (by decide)).trans h20, hL.fr gd frP (fun j hj => by unfold tP tg; omega) n0 rfl, hLog.fr gd.1 frP (by unfold tL tP; omega), hD1.fr gd.1 frP (by unfold tD tP; omega), hD2.fr gd.1 frP (by unfold tQ tP; omega), ⟨Wf_same rfl rfl gd.1, gd.2⟩⟩, ⟨(ne 1 (by decide) (by decide) (by decide)).trans f1, (ne 13 (by decide) (by decide) (by decide)).trans f13, (ne 14 (by decide) (by decide) (by decide)).trans f14, (ne 15 (by decide) (by decide) (by decide)).trans f15, (ne 21 (by decide) (by decide) (by decide)).trans f21, (ne 22 (by decide) (by decide) (by decide)).trans f22, (ne 23 (by decide) (by decide) (by decide)).trans f23⟩, ⟨(ne 24 (by decide) (by decide) (by decide)).trans f24, (ne 25 (by decide) (by decide) (by decide)).trans f25, (ne 26 (by decide) (by decide) (by decide)).trans f26⟩, hI, hD, hb1, hb2, eS, eZ⟩, frP, pf⟩
theorem WS.kd {dr US UZ : Nat} {ln : Nat → List Wd} {rows : List Rw} (hW : WS g h ow s p lg A q1 q2 ses how ea sp st lt mk dr ln rows US UZ) : hK h p = 8 ∧ fI h 1 p = mk ∧ fI h 13 p = sp ∧ fI h 14 p = st ∧ fI h 15 p = (if ses then 1 else 0) ∧ Wf h ∧ ow p = tP s := by
  obtain ⟨ac, D1, D2, s1, c1, b1, s2, c2, b2, ⟨hC, h20, hL, hLog, hD1, hD2, gd⟩, ⟨f1, f13, f14, f15, f21, f22, f23⟩, _⟩ := hW
  exact ⟨hC.1, f1, f13, f14, f15, gd.1, hC.2.1⟩
theorem tk_loop {m fst : Int32} {v : Int64} (hB : BdS s how ea sp st lt mk) (hk : k < 1000) (hm : m.toInt ≤ 100000) :
    ∀ (n : Nat) (h : Hp) (ow : Nat → Nat) (ln : Nat → List Wd) (rows : List Rw) (dr US UZ : Nat) (b : Int32), n ≤ 4 → WS g h ow s p lg A q1 q2 ses how ea sp st lt mk dr ln rows US UZ → -10000 ≤ b.toInt → b.toInt ≤ 120000 → 0 < b.toInt + sp.toInt → m.toInt < b.toInt + n * st.toInt → sm vN ln + n < 100000 → ptR mk ln rows + 4 * n ≤ 192010 →
      (∀ h' ow' US' UZ' ln' rows' dr', (ln', rows', dr') = (begs n b st m).foldl (enS ses s how ea sp lt mk k v) (ln, rows, dr) → WS g h' ow' s p lg A q1 q2 ses how ea sp st lt mk dr' ln' rows' US' UZ' → Fr ow ow' (SS s) h h' → PFl [23, 24, 25, 26] p h h' → hs h' + US + lgS rows.length ≤ hs h + US' + lgS rows'.length → hz h' + UZ + lgZ rows.length ≤ hz h + UZ' + lgZ rows'.length → ptR mk ln' rows' + 4 * sm vN ln ≤ ptR mk ln rows + 4 * sm vN ln' → sm vN ln ≤ sm vN ln' ∧ sm vN ln' ≤ sm vN ln + (begs n b st m).length → (∃ more, rows' = rows ++ more) → Q none h') →
      V g mX8_take (d + 10) 50 [.ref p, .int (nI k), .int m, .long v, zz, .int fst, .int b] [] h Q := by
  intro n
  induction n with
  | zero =>
    intro h ow ln rows dr US UZ b hn hW b3 b4 b5 hc hv hr hQ
    refine v_ild6 (q := 52) dX8_take_50 rfl ?_
    refine v_ild2 (q := 53) dX8_take_52 rfl ?_
    refine v_icmp_gt (t := 76) (q := 56) dX8_take_53 (by decide) rfl (fun _ => ?_) (fun hle => absurd (show m < b by rw [fa_lt]; omega) hle)
    refine v_vret dX8_take_76 rfl ?_
    exact hQ h ow US UZ ln rows dr rfl hW (Fr.rf h) (PFl.rf _ _ _) (Nat.le_refl _) (Nat.le_refl _) (Nat.le_refl _) ⟨Nat.le_refl _, Nat.le_add_right _ _⟩ ⟨[], (List.append_nil _).symm⟩
  | succ n ih =>
    intro h ow ln rows dr US UZ b hn hW b3 b4 b5 hc hv hr hQ
    obtain ⟨kp, _, _, _, _, _⟩ := hW.kd
    refine v_ild6 (q := 52) dX8_take_50 rfl ?_
    refine v_ild2 (q := 53) dX8_take_52 rfl ?_
    by_cases hle : b ≤ m
    · refine v_icmp_gt (t := 76) (q := 56) dX8_take_53 (by decide) rfl (fun hgt => absurd hle (Int32.not_le.mpr hgt)) (fun _ => ?_)
      have hle2 := hle
      rw [fa_le] at hle2
      have eb : begs (n + 1) b st m = b :: begs n (b + st) st m := if_pos hle
      rw [eb] at hQ
      refine v_ald0 (q := 57) dX8_take_56 rfl rfl ?_
      refine v_ild1 (q := 58) dX8_take_57 rfl ?_
      refine v_ild6 (q := 60) dX8_take_58 rfl ?_
      refine v_lld3 (q := 61) dX8_take_60 rfl ?_
      refine v_callV (q := 64) (d' := d + 9) (av := [.int (nI k), .int b, .long v]) dX8_take_61 rfl ok_X8_enter CL7 ml_X8_59 im_X8_enter se_X8_enter (by assumption) (by omega) rfl rfl (Nat.le_of_ble_eq_true rfl) ?_
      refine k_enterS (d := d) hW hB hk b3 (by omega) b5 (by omega) (by omega) (fun h1 ow1 US1 UZ1 W1 f1 p1 y1 y2 y3 y4 y5 => ?_)
      obtain ⟨kp1, _, _, f14, _, _⟩ := W1.kd
      obtain ⟨B1, B2, B3, B4, B5, B6, B7, B8, B9, B10, B11, B12⟩ := hB
      have ebst : (b + st).toInt = b.toInt + st.toInt := i32_add (by omega) (by omega)
      have hmul : ((n + 1 : Nat) : Int) * st.toInt = n * st.toInt + st.toInt := by
        rw [Int.natCast_add, Int.add_mul]
        simp
      refine v_ild6 (q := 66) dX8_take_64 rfl ?_
      refine v_ald0 (q := 67) dX8_take_66 rfl rfl ?_
      refine v_getI (q := 70) dX8_take_67 rfl gf_X8_46_7 (by assumption) ?_
      refine v_iadd (q := 71) dX8_take_70 rfl ?_
      refine v_ist6 (q := 73) dX8_take_71 rfl (by decide) rfl ?_
      rw [f14]
      refine v_goto (q := 50) dX8_take_73 (by decide) ?_
      obtain ⟨more, em⟩ := y5
      refine ih h1 ow1 _ _ _ US1 UZ1 (b + st) (by omega) W1 (by omega) (by omega) (by omega) (by omega) (by omega) (by omega) (fun h2 ow2 US2 UZ2 ln2 rows2 dr2 e2 W2 f2 p2 z1 z2 z3 z4 z5 => ?_)
      obtain ⟨more2, em2⟩ := z5
      refine hQ h2 ow2 US2 UZ2 ln2 rows2 dr2 e2 W2 (f1.tr f2) (p1.tr p2 (fun _ h => h) (fun _ h => h)) (by omega) (by omega) (by omega) ⟨by omega, by rw [List.length_cons]; omega⟩ ⟨more ++ more2, by rw [em2, em, List.append_assoc]⟩
    · refine v_icmp_gt (t := 76) (q := 56) dX8_take_53 (by decide) rfl (fun _ => ?_) (fun hgt => absurd (Int32.not_le.mp hle) hgt)
      have eb : begs (n + 1) b st m = [] := if_neg hle
      rw [eb] at hQ
      refine v_vret dX8_take_76 rfl ?_
      exact hQ h ow US UZ ln rows dr rfl hW (Fr.rf h) (PFl.rf _ _ _) (Nat.le_refl _) (Nat.le_refl _) (Nat.le_refl _) ⟨Nat.le_refl _, Nat.le_add_right _ _⟩ ⟨[], (List.append_nil _).symm⟩
theorem fst_int {m r : Int32} (h1 : 1 ≤ sp.toInt) (h2 : sp.toInt ≤ 10001) (h3 : 1 ≤ st.toInt) (h4 : st.toInt ≤ 10001) (m0 : 0 ≤ m.toInt) (m1 : m.toInt ≤ 100000) (hr : r.toInt = (m - sp).toInt / st.toInt) : r * st + st = fstB false sp st m ∧ m.toInt - sp.toInt < (fstB false sp st m).toInt ∧ (fstB false sp st m).toInt ≤ m.toInt - sp.toInt + st.toInt := by
  have es : (m - sp).toInt = m.toInt - sp.toInt := by
    rw [Int32.toInt_sub]
    exact Int.bmod_eq_of_le (by omega) (by omega)
  rw [es] at hr
  have q1 := Int.mul_ediv_add_emod (m.toInt - sp.toInt) st.toInt
  have q2 := Int.emod_nonneg (m.toInt - sp.toInt) (show st.toInt ≠ 0 by omega)
  have q3 := Int.emod_lt_of_pos (m.toInt - sp.toInt) (show 0 < st.toInt by omega)
  have hm : (r * st).toInt = (m.toInt - sp.toInt) / st.toInt * st.toInt := by
    rw [Int32.toInt_mul, hr]
    rw [Int.mul_comm] at q1
    exact Int.bmod_eq_of_le (by omega) (by omega)
  rw [Int.mul_comm] at q1
  have e1 : (r * st + st).toInt = (m.toInt - sp.toInt) / st.toInt * st.toInt + st.toInt := by
    rw [i32_add (by rw [hm]; omega) (by rw [hm]; omega), hm]
  have e2 : (fstB false sp st m).toInt = (m.toInt - sp.toInt) / st.toInt * st.toInt + st.toInt := by
    unfold fstB
    rw [if_neg (by decide), Int32.toInt_ofInt, show (Int32.size : Nat) = 4294967296 from rfl]
    exact Int.bmod_eq_of_le (by omega) (by omega)
  refine ⟨?_, by omega, by omega⟩
  rw [fa_eq, e1, e2]
theorem k_take {m : Int32} {v : Int64} {dr US UZ : Nat} {ln : Nat → List Wd} {rows : List Rw} (hW : WS g h ow s p lg A q1 q2 ses how ea sp st lt mk dr ln rows US UZ) (hB : BdS s how ea sp st lt mk) (hk : k < 1000) (m0 : 0 ≤ m.toInt) (m1 : m.toInt ≤ 100000) (hv : sm vN ln + 4 < 100000) (hr : ptR mk ln rows + 16 ≤ 192010)
    (hQ : ∀ h' ow' US' UZ' ln' rows' dr', (ln', rows', dr') = tkS ses s how ea sp st lt mk k m v (ln, rows, dr) → WS g h' ow' s p lg A q1 q2 ses how ea sp st lt mk dr' ln' rows' US' UZ' → Fr ow ow' (SS s) h h' → PFl [4, 23, 24, 25, 26] p h h' → fI h' 4 p = fI h 4 p + 1 → hs h' + US + lgS rows.length ≤ hs h + US' + lgS rows'.length → hz h' + UZ + lgZ rows.length ≤ hz h + UZ' + lgZ rows'.length → ptR mk ln' rows' + 4 * sm vN ln ≤ ptR mk ln rows + 4 * sm vN ln' → sm vN ln ≤ sm vN ln' ∧ sm vN ln' ≤ sm vN ln + (begs 4 (fstB ses sp st m) st m).length → (∃ more, rows' = rows ++ more) → Q none h') :
    Call g mX8_take (d + 10) [.ref p, .int (nI k), .int m, .long v] h Q := by
  obtain ⟨kp, f1, f13, f14, f15, wf, op⟩ := hW.kd
  have hB' := hB
  obtain ⟨B1, B2, B3, B4, B5, B6, B7, B8, B9, B10, B11, B12⟩ := hB
  refine Call.of [.ref p, .int (nI k), .int m, .long v, zz, zz, zz] (by decide) (Nat.le_of_ble_eq_true rfl) rfl ?_
  refine v_ald0 (q := 1) dX8_take_0 rfl rfl ?_
  refine v_dup (q := 2) dX8_take_1 rfl rfl ?_
  refine v_getI (q := 5) dX8_take_2 rfl gf_X8_53_7 (by assumption) ?_
  refine v_iconst (q := 6) (v := 1) dX8_take_5 rfl (by decide) ?_
  refine v_iadd (q := 7) dX8_take_6 rfl ?_
  refine v_putI (q := 10) dX8_take_7 rfl pf_X8_53_7 (by assumption) rfl rfl ?_
  obtain ⟨W1, fr1, p1⟩ := hW.set (f := 4) (u := fI h 4 p + 1) B1 (Or.inr (Or.inl rfl))
  have e4 : fI (sFI h 4 p (fI h 4 p + 1)) 4 p = fI h 4 p + 1 := fi_eq _ _ _ _
  have z1 : hs (sFI h 4 p (fI h 4 p + 1)) = hs h := rfl
  have z2 : hz (sFI h 4 p (fI h 4 p + 1)) = hz h := rfl
  generalize sFI h 4 p (fI h 4 p + 1) = h1 at *
  obtain ⟨kp1, g1, g13, g14, g15, _⟩ := W1.kd
  have rest : ∀ u : Int32, u = fstB ses sp st m → -10000 ≤ u.toInt → u.toInt ≤ 120000 → 0 < u.toInt + sp.toInt → m.toInt < u.toInt + 4 * st.toInt → V g mX8_take (d + 10) 44 [.ref p, .int (nI k), .int m, .long v, zz, zz, zz] [.int u] h1 Q := fun u hu u1 u2 u3 u4 => by
    refine v_ist5 (q := 46) dX8_take_44 rfl (by decide) rfl ?_
    refine v_ild5 (q := 48) dX8_take_46 rfl ?_
    refine v_ist6 (q := 50) dX8_take_48 rfl (by decide) rfl ?_
    refine tk_loop (d := d) hB' hk m1 4 h1 ow ln rows dr US UZ u (by omega) W1 u1 u2 u3 u4 (by omega) (by omega) (fun h2 ow2 US2 UZ2 ln2 rows2 dr2 e2 W2 f2 p2 y1 y2 y3 y4 y5 => ?_)
    rw [hu] at e2 y4
    exact hQ h2 ow2 US2 UZ2 ln2 rows2 dr2 e2 W2 ((fr1.mono (fun t e => Or.inl (by rw [e]; unfold tP; omega))).tr f2) ((p1.mono (fun f hf => by simp at hf; simp [hf])).tr (p2.mono (fun f hf => by simp at hf; rcases hf with e | e | e | e <;> simp [e])) (fun _ h => h) (fun _ h => h)) ((p2.2.1 4 (by decide)).trans e4) (by omega) (by omega) y3 y4 y5
  refine v_ald0 (q := 11) dX8_take_10 rfl rfl ?_
  refine v_getI (q := 14) dX8_take_11 rfl gf_X8_33_7 (by assumption) ?_
  rw [g15]
  cases ses with
  | true =>
    refine v_if_eq (t := 21) (q := 17) dX8_take_14 (by decide) rfl (fun hc => absurd hc (by decide)) (fun _ => ?_)
    refine v_ild2 (q := 18) dX8_take_17 rfl ?_
    refine v_goto (q := 44) dX8_take_18 (by decide) ?_
    exact rest m rfl (by omega) (by omega) (by omega) (by omega)
  | false =>
    refine v_if_eq (t := 21) (q := 17) dX8_take_14 (by decide) rfl (fun _ => ?_) (fun hc => absurd rfl hc)
    refine v_ild2 (q := 22) dX8_take_21 rfl ?_
    refine v_ald0 (q := 23) dX8_take_22 rfl rfl ?_
    refine v_getI (q := 26) dX8_take_23 rfl gf_X8_37_7 (by assumption) ?_
    refine v_isub (q := 27) dX8_take_26 rfl ?_
    refine v_ald0 (q := 28) dX8_take_27 rfl rfl ?_
    refine v_getI (q := 31) dX8_take_28 rfl gf_X8_46_7 (by assumption) ?_
    rw [g13, g14]
    refine v_callS (q := 34) (d' := d + 9) (av := [.int (m - sp), .int st]) dX8_take_31 rfl ok_J9_floorDiv_7cf53 ml_X8_56 st_J9_floorDiv_7cf53 (by omega) rfl rfl (Nat.le_of_ble_eq_true rfl) ?_
    refine k_floorDiv (by rw [fa_lt]; exact B6) (fun r hr => ?_)
    obtain ⟨e1, e2, e3⟩ := fst_int B4 B5 B6 B7 m0 m1 hr
    refine v_ald0 (q := 35) dX8_take_34 rfl rfl ?_
    refine v_getI (q := 38) dX8_take_35 rfl gf_X8_46_7 (by assumption) ?_
    refine v_imul (q := 39) dX8_take_38 rfl ?_
    refine v_ald0 (q := 40) dX8_take_39 rfl rfl ?_
    refine v_getI (q := 43) dX8_take_40 rfl gf_X8_46_7 (by assumption) ?_
    refine v_iadd (q := 44) dX8_take_43 rfl ?_
    rw [g14, e1]
    exact rest _ rfl (by omega) (by omega) (by omega) (by omega)
end L64
