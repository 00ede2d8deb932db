/-! 68: Windowed: rise, the first loop -/
def allS (ln : Nat → List Wd) : List Int64 := slo (fun _ => true) ln
section L68
variable {g : Gl} {d : Nat} {h : Hp} {Q : Option Value → Hp → Prop} {ow : Nat → Nat} {s p lg A q1 q2 how c k : Nat} {ses : Bool} {sp mk to : Int32} {sty : Int} {rows : List Rw} {ln : Nat → List Wd}
theorem allS_mem {x : Int64} : x ∈ allS ln ↔ ∃ k, k < 1000 ∧ ∃ w ∈ ln k, x = sSl k w := by
  unfold allS
  rw [slo_mem]
  constructor
  · rintro ⟨k, hk, w, hw, _, e⟩
    exact ⟨k, hk, w, hw, e⟩
  · rintro ⟨k, hk, w, hw, e⟩
    exact ⟨k, hk, w, hw, rfl, e⟩
theorem allS_ext {ln' : Nat → List Wd} (he : ∀ k, k < 1000 → (ln' k).map ext = (ln k).map ext) : allS ln' = allS ln := by
  unfold allS slo
  have h1 : ∀ (m : Nat → List Wd) (k : Nat), ((m k).filter (fun _ => true)).map (sSl k) = ((m k).map ext).map (fun t => cSlot (nI k) t.1 t.2.1) := fun m k => by
    rw [List.filter_eq_self.mpr (fun _ _ => rfl), List.map_map]
    rfl
  have key : ∀ n, n ≤ 1000 → (List.range n).flatMap (fun k => ((ln' k).filter (fun _ => true)).map (sSl k)) = (List.range n).flatMap (fun k => ((ln k).filter (fun _ => true)).map (sSl k)) := by
    intro n
    induction n with
    | zero => exact fun _ => rfl
    | succ n ih =>
      intro hn
      rw [List.range_succ, List.flatMap_append, List.flatMap_append, List.flatMap_singleton, List.flatMap_singleton, ih (by omega), h1, h1, he n (by omega)]
  exact key 1000 (Nat.le_refl _)
theorem upR_acc (ac : Nat → Nat × Nat) (k : Nat) : upR ac k ((ac k).1, (ac k).2) = ac := funext fun j => by
  unfold upR
  split
  · rename_i e
    rw [e]
  · rfl
theorem WG.lane {ac : Nat → Nat × Nat} {D1 D2 : List Int64} {s1 c1 b1 s2 c2 b2 : Nat} {w : Wd} (hW : WG g h ow s p lg A q1 q2 how c ln ac rows D1 D2 s1 c1 b1 s2 c2 b2) (hk : k < 1000) (hw : w ∈ ln k) : ∃ la al e Z, ln k = Z.map (·.2) ∧ LnF g h ow s p lg A q1 q2 how c k la al e Z (ac k).1 (ac k).2 rows := by
  obtain ⟨hC, h20, hL, hLog, hD1, hD2, gd⟩ := hW
  rcases hL k hk with ⟨_, o2, _⟩ | ⟨la, al, e, Z, o1, o2, o3, o4, o5⟩
  · rw [o2] at hw
    cases hw
  · exact ⟨la, al, e, Z, o3, hC, h20, o1, o2, o4, o5, hLog, gd⟩
/-- a window is given, its slot goes to those passed -/
theorem rs51 {ac : Nat → Nat × Nat} {D1 D2 : List Int64} {s1 c1 b1 s2 c2 b2 la al e w n : Nat} {Z1 Z2 : Zw} {y : Wd} {x : Int64} (hW : WG g h ow s p lg A q1 q2 how c ln ac rows D1 D2 s1 c1 b1 s2 c2 b2) (hF : LnF g h ow s p lg A q1 q2 how c k la al e (Z1 ++ (w, y) :: Z2) (ac k).1 (ac k).2 rows) (hLk : ln k = (Z1 ++ (w, y) :: Z2).map (·.2)) (hs6 : s < 16) (hk : k < 1000) (hh : how ≤ 5) (hr : RowOK s k rows y) (hne : wVs y ≠ []) (hl : (wVs y).length < 1000000) (hn : rows.length + 1 < 192512) (hb : b2 < 400000) (f26 : fI h 26 p = nI (sm cR ln))
    (hQ : ∀ h' ow' s2' c2', WG g h' ow' s p lg A q1 q2 how c (upR ln k (Z1.map (·.2) ++ (finW s k how True rows y).1 :: Z2.map (·.2))) ac (finW s k how True rows y).2 D1 (x :: D2) s1 c1 b1 s2' c2' (b2 + 1) → Fr ow ow' (SS s) h h' → PFl [26] p h h' → fI h' 26 p = nI (sm cR (upR ln k (Z1.map (·.2) ++ (finW s k how True rows y).1 :: Z2.map (·.2)))) → hs h' + s2 + lgS rows.length ≤ hs h + s2' + lgS (finW s k how True rows y).2.length → hz h' + c2 + lgZ rows.length ≤ hz h + c2' + lgZ (finW s k how True rows y).2.length → V g mX8_rise (d + 9) 13 [.ref p, .int to, .int (nI n), .long x, zz, .ref w] [] h' Q) :
    V g mX8_rise (d + 9) 51 [.ref p, .int to, .int (nI (n + 1)), .long x, zz, .ref w] [] h Q := by
  obtain ⟨hC, h20, hL, hLog, hD1, hD2, gd⟩ := hW
  have k1 : hK h p = 8 := hC.1
  refine v_ald0 (q := 52) dX8_rise_51 rfl rfl ?_
  refine v_ald5 (q := 54) dX8_rise_52 rfl rfl ?_
  refine v_callV (q := 57) (d' := d + 8) (av := [.ref w]) dX8_rise_54 rfl ok_X8_give CL7 ml_X8_86 im_X8_give se_X8_give (by assumption) (by omega) rfl rfl (Nat.le_of_ble_eq_true rfl) ?_
  refine k_give (d := d) hF hs6 hk hh hr hne hl hn (fun h1 ow1 F1 f1 p1 l1 y1 y2 => ?_)
  have ef : finW s k how True rows y = ((wB y, wE y, some (rows ++ backOf s k rows y).length, wVs y), rows ++ backOf s k rows y ++ [(false, s, k, wB y, wE y, ansV how (wVs y))]) := if_pos trivial
  have el : (finW s k how True rows y).2.length = (rows ++ backOf s k rows y).length + 1 := by
    rw [ef]
    show (rows ++ backOf s k rows y ++ [(false, s, k, wB y, wE y, ansV how (wVs y))]).length = _
    rw [List.length_append, List.length_singleton]
  have F1' : LnF g h1 ow1 s p lg A q1 q2 how c k la al e (Z1 ++ (w, (finW s k how True rows y).1) :: Z2) (ac k).1 (ac k).2 (finW s k how True rows y).2 := by
    rw [ef]
    exact F1
  have nD : ¬ S3 s k (tD s) := fun hh => by
    unfold S3 tD tg tP tL at hh
    omega
  have nQ : ¬ S3 s k (tQ s) := fun hh => by
    unfold S3 tQ tg tP tL at hh
    omega
  have wf1 := F1.2.2.2.2.2.2.2.1
  obtain ⟨W1, fr1⟩ := wg_done hL gd hs6 hC (Fr.rf h) (fun _ _ => rfl) (f1.mono (fun t e => S3_S5 e)) F1' (hD1.fr gd.1 f1 nD) (hD2.fr gd.1 f1 nQ) hk
  rw [List.map_append, List.map_cons, upR_acc] at W1
  obtain ⟨hC1, h201, hL1, hLog1, hD11, hD21, gd1⟩ := W1
  have k1' : hK h1 p = 8 := hC1.1
  have f19 : fP h1 19 p = some q2 := hC1.2.2.2.2.2.2.1
  have kq2 : hK h1 q2 = 3 := by
    obtain ⟨t, ht, _⟩ := hD21
    exact ht.1.1
  have bl := backOf_len hr
  have hsum : fI h1 26 p = nI (sm cR (upR ln k (Z1.map (·.2) ++ (finW s k how True rows y).1 :: Z2.map (·.2)))) := by
    have u := sm_upd cR ln hk (Z1.map (·.2) ++ (finW s k how True rows y).1 :: Z2.map (·.2))
    have hle := sm_le cR ln hk
    have e1 : cR (ln k) = cR (Z1.map (·.2)) + (cR (Z2.map (·.2)) + if (wR y).isSome then 1 else 0) := by
      rw [hLk, List.map_append, List.map_cons]
      unfold cR
      rw [List.countP_append, List.countP_cons]
    have e2 : cR (Z1.map (·.2) ++ (finW s k how True rows y).1 :: Z2.map (·.2)) = cR (Z1.map (·.2)) + (cR (Z2.map (·.2)) + 1) := by
      unfold cR
      rw [List.countP_append, List.countP_cons, if_pos (by rw [ef]; rfl)]
    have hi : (if (wR y).isSome = true then 1 else 0) ≤ 1 := by split <;> omega
    rw [← bl] at e1 hi
    rw [l1, f26, nI_sub (by omega), nI_1]
    refine congrArg nI ?_
    omega
  refine v_ald0 (q := 58) dX8_rise_57 rfl rfl ?_
  refine v_getR (q := 61) dX8_rise_58 rfl gf_X8_26_7 (by assumption) (by assumption) ?_
  refine v_lld3 (q := 62) dX8_rise_61 rfl ?_
  refine v_callV (q := 65) (d' := d + 8) (av := [.long x]) dX8_rise_62 rfl ok_X2_add CL2 ml_X8_90 im_X2_add se_X2_add (by assumption) (by omega) rfl rfl (Nat.le_of_ble_eq_true rfl) ?_
  refine k_hpAdd (d := d + 6) hD21 gd1.1 hb (fun h2 s2' c2' G2 g2 wf2 y3 y4 => ?_)
  refine v_inc2 (q := 68) dX8_rise_65 rfl (by decide) rfl rfl ?_
  rw [dec1]
  refine v_goto (q := 13) dX8_rise_68 (by decide) ?_
  have m1 : ∀ j, j < 1000 → ¬ tg s j = tQ s := fun j hj => by unfold tQ tg; omega
  have m2 : ¬ tP s = tQ s := by unfold tP tQ; omega
  have m3 : ¬ tA s = tQ s := by unfold tA tQ; omega
  have m4 : ¬ tL = tQ s := by unfold tL tQ; omega
  have m0 : ¬ 0 = tQ s := by unfold tQ; omega
  have m5 : ¬ tD s = tQ s := by unfold tD tQ; omega
  have lt1 := hC1.lt gd1.1
  have sp2 : sameAt h1 h2 p := g2.2.2 p lt1.1 (by rw [hC1.2.1]; exact m2)
  have sA2 : sameAt h1 h2 A := g2.2.2 A lt1.2 (by rw [hC1.2.2.2.2.2.2.2.2.2]; exact m3)
  refine hQ h2 _ s2' c2' ⟨hC1.on (PFl.of sp2) (by decide) (g2.2.1 p lt1.1) (g2.2.1 A lt1.2) sA2.1 sA2.2.1, (sp2.2.2.1 20).trans h201, hL1.fr gd1 g2 m1 m0 sA2.2.2.2.2.2.2.2, hLog1.fr gd1.1 g2 m4, hD11.fr gd1.1 g2 m5, G2, gd1.fr g2 m0 wf2⟩ ((fr1.mono (fun t e => ?_)).tr (g2.mono (fun t e => ?_))) (p1.tr (PFl.of sp2) (fun _ h => h) (fun _ h => absurd h List.not_mem_nil)) ((sp2.2.2.1 26).trans hsum) ?_ ?_
  · unfold S6 S5 tg tP tL tD tQ tA at e
    unfold SS tL
    omega
  · rw [e]
    unfold SS tQ
    omega
  · rw [el]
    omega
  · rw [el]
    omega
theorem cEnd_mono {x y : Int64} {j k : Nat} {b e b' e' : Int32} (hx : x = cSlot (nI j) b e) (hy : y = cSlot (nI k) b' e') (h1 : VB b e) (h2 : VB b' e') (hj : j < 1000) (hk : k < 1000) (h : x ≤ y) : e.toInt ≤ e'.toInt := by
  rw [fa_le64, hx, hy, slot_int h1 hj, slot_int h2 hk] at h
  obtain ⟨a1, a2, a3, a4⟩ := h1
  obtain ⟨c1, c2, c3, c4⟩ := h2
  omega
theorem rs_loop1 {Rst : List Int64} {ac : Nat → Nat × Nat} {s1 c1 b1 : Nat} (hs6 : s < 16) (hh : how ≤ 5) (h1s : 1 ≤ sp.toInt) (hs0 : 0 ≤ sty) (hRe : ∀ y ∈ Rst, ¬ cEnd y ≤ to) :
    ∀ (U : List Int64) (h : Hp) (ow : Nat → Nat) (ln : Nat → List Wd) (rows : List Rw) (D2 : List Int64) (s2 c2 b2 : Nat) (u3 u4 u5 : Value), WG g h ow s p lg A q1 q2 how c ln ac rows (U ++ Rst) D2 s1 c1 b1 s2 c2 b2 → P1 ses s sp mk to sty U ln rows D2 → (U ++ Rst).Pairwise (· < ·) → (∀ x ∈ U, cEnd x ≤ to) → fI h 26 p = nI (sm cR ln) → rows.length + sm cR ln + 2 * U.countP (fun x => decide (x ∈ allS ln)) ≤ 192010 → b2 + U.length < 400000 → sm vN ln < 1000000 → (U ++ Rst).length < 1000000 →
      (∀ h' ow' ln' rows' D2' s2' c2' b2' (n : Nat) (u3 u4 u5 : Value), (ln', rows') = U.foldl (gvS s how) (ln, rows) → WG g h' ow' s p lg A q1 q2 how c ln' ac rows' Rst D2' s1 c1 b1 s2' c2' b2' → P1 ses s sp mk to sty [] ln' rows' D2' → (∀ k, k < 1000 → (ln' k).map ext = (ln k).map ext) → Fr ow ow' (SS s) h h' → PFl [26] p h h' → fI h' 26 p = nI (sm cR ln') → rows'.length + sm cR ln' ≤ rows.length + sm cR ln + 2 * U.countP (fun x => decide (x ∈ allS ln)) → b2' ≤ b2 + U.length → hs h' + s2 + lgS rows.length ≤ hs h + s2' + lgS rows'.length → hz h' + c2 + lgZ rows.length ≤ hz h + c2' + lgZ rows'.length → (∃ more, rows' = rows ++ more) → V g mX8_rise (d + 9) 71 [.ref p, .int to, .int (nI n), u3, u4, u5] [] h' Q) →
      V g mX8_rise (d + 9) 13 [.ref p, .int to, .int (nI (U ++ Rst).length), u3, u4, u5] [] h Q := by
  intro U
  induction U with
  | nil =>
    intro h ow ln rows D2 s2 c2 b2 u3 u4 u5 hW hP hpw hUe f26 hpt hb hv hlen hQ
    have done := hQ h ow ln rows D2 s2 c2 b2 Rst.length u3 u4 u5 rfl hW hP (fun _ _ => rfl) (Fr.rf h) (PFl.rf _ _ _) f26 (by omega) (by omega) (Nat.le_refl _) (Nat.le_refl _) ⟨[], (List.append_nil _).symm⟩
    rw [List.nil_append] at hpw hlen hW ⊢
    obtain ⟨hC, h20, hL, hLog, hD1, hD2, gd⟩ := hW
    have k1 : hK h p = 8 := hC.1
    have f18 : fP h 18 p = some q1 := hC.2.2.2.2.2.1
    have kq1 : hK h q1 = 3 := by
      obtain ⟨t, ht, _⟩ := hD1
      exact ht.1.1
    refine v_ild2 (q := 14) dX8_rise_13 rfl ?_
    refine v_if_le (t := 71) (q := 17) dX8_rise_14 (by decide) rfl (fun _ => done) (fun hn => ?_)
    match hR : Rst with
    | [] => exact absurd (by decide) hn
    | y :: R =>
      have hRe' : ¬ cEnd y ≤ to := hRe y (by first | exact List.mem_cons_self | (rw [hR]; exact List.mem_cons_self))
      refine v_ald0 (q := 18) dX8_rise_17 rfl rfl ?_
      refine v_getR (q := 21) dX8_rise_18 rfl gf_X8_22_7 (by assumption) (by assumption) ?_
      refine v_callV (q := 24) (d' := d + 8) (av := []) dX8_rise_21 rfl ok_X2_least CL2 ml_X8_69 im_X2_least se_X2_least (by assumption) (by omega) rfl rfl (Nat.le_of_ble_eq_true rfl) ?_
      refine k_hpLeast hD1 (fun z hz => Int64.le_of_lt ((List.pairwise_cons.mp hpw).1 z hz)) ?_
      refine v_callS (q := 27) (d' := d + 8) (av := [.long y]) dX8_rise_24 rfl ok_X0_endOf ml_X8_73 st_X0_endOf (by omega) rfl rfl (Nat.le_of_ble_eq_true rfl) ?_
      refine k_endOf ?_
      refine v_ild1 (q := 28) dX8_rise_27 rfl ?_
      exact v_icmp_gt (t := 71) (q := 31) dX8_rise_28 (by decide) rfl (fun _ => done) (fun hc => absurd (Int32.not_lt.mp hc) hRe')
  | cons x U ih =>
    intro h ow ln rows D2 s2 c2 b2 u3 u4 u5 hW hP hpw hUe f26 hpt hb hv hlen hQ
    have hW0 := hW
    obtain ⟨hC, h20, hL, hLog, hD1, hD2, gd⟩ := hW
    rw [List.cons_append] at hpw hD1 hlen ⊢
    have k1 : hK h p = 8 := hC.1
    have f18 : fP h 18 p = some q1 := hC.2.2.2.2.2.1
    have kq1 : hK h q1 = 3 := by
      obtain ⟨t, ht, _⟩ := hD1
      exact ht.1.1
    have hmin : ∀ z ∈ U ++ Rst, x ≤ z := fun z hz => Int64.le_of_lt ((List.pairwise_cons.mp hpw).1 z hz)
    rw [List.length_cons] at hlen hb ⊢
    refine v_ild2 (q := 14) dX8_rise_13 rfl ?_
    refine v_if_le (t := 71) (q := 17) dX8_rise_14 (by decide) rfl (fun hc => absurd hc (nI_nle (by omega) (by omega))) (fun hn => ?_)
    refine v_ald0 (q := 18) dX8_rise_17 rfl rfl ?_
    refine v_getR (q := 21) dX8_rise_18 rfl gf_X8_22_7 (by assumption) (by assumption) ?_
    refine v_callV (q := 24) (d' := d + 8) (av := []) dX8_rise_21 rfl ok_X2_least CL2 ml_X8_69 im_X2_least se_X2_least (by assumption) (by omega) rfl rfl (Nat.le_of_ble_eq_true rfl) ?_
    refine k_hpLeast hD1 hmin ?_
    refine v_callS (q := 27) (d' := d + 8) (av := [.long x]) dX8_rise_24 rfl ok_X0_endOf ml_X8_73 st_X0_endOf (by omega) rfl rfl (Nat.le_of_ble_eq_true rfl) ?_
    refine k_endOf ?_
    refine v_ild1 (q := 28) dX8_rise_27 rfl ?_
    refine v_icmp_gt (t := 71) (q := 31) dX8_rise_28 (by decide) rfl (fun hc => absurd (hUe x List.mem_cons_self) (Int32.not_le.mpr hc)) (fun _ => ?_)
    refine v_ald0 (q := 32) dX8_rise_31 rfl rfl ?_
    refine v_getR (q := 35) dX8_rise_32 rfl gf_X8_22_7 (by assumption) (by assumption) ?_
    refine v_callV (q := 38) (d' := d + 8) (av := []) dX8_rise_35 rfl ok_X2_takeLeast CL2 ml_X8_79 im_X2_takeLeast se_X2_takeLeast (by assumption) (by omega) rfl rfl (Nat.le_of_ble_eq_true rfl) ?_
    refine k_hpTake (d := d + 7) hD1 gd.1 hmin (fun h1 G1 g1 wf1 z1 z2 => ?_)
    have m1 : ∀ j, j < 1000 → ¬ tg s j = tD s := fun j hj => by unfold tD tg; omega
    have m2 : ¬ tP s = tD s := by unfold tP tD; omega
    have m3 : ¬ tA s = tD s := by unfold tA tD; omega
    have m4 : ¬ tL = tD s := by unfold tL tD; omega
    have m0 : ¬ 0 = tD s := by unfold tD; omega
    have m5 : ¬ tQ s = tD s := by unfold tD tQ; omega
    have lt0 := hC.lt gd.1
    have sp1 : sameAt h h1 p := g1.2.2 p lt0.1 (by rw [hC.2.1]; exact m2)
    have sA1 : sameAt h h1 A := g1.2.2 A lt0.2 (by rw [hC.2.2.2.2.2.2.2.2.2]; exact m3)
    have W1 : WG g h1 ow s p lg A q1 q2 how c ln ac rows (U ++ Rst) D2 s1 c1 b1 s2 c2 b2 := ⟨hC.on (PFl.of sp1) (by decide) rfl rfl sA1.1 sA1.2.1, (sp1.2.2.1 20).trans h20, hL.fr gd g1 m1 m0 sA1.2.2.2.2.2.2.2, hLog.fr gd.1 g1 m4, G1, hD2.fr gd.1 g1 m5, gd.fr g1 m0 wf1⟩
    have frS1 : Fr ow ow (SS s) h h1 := g1.mono (fun t e => by rw [e]; unfold SS tD; omega)
    obtain ⟨k, b, e0, w0, i1, i2, i3, i4, i5, i6, i7⟩ := (hP.2.2.2.2.1 x List.mem_cons_self).2
    obtain ⟨la, al, e, Z, hZ, F1⟩ := W1.lane i1 i4
    have hIk := hP.1 k i1
    have hE := hIk.ends h1s
    rw [hZ] at hE
    have hvk := sm_le vN ln i1
    have hlZ : Z.length ≤ vN (ln k) := by
      have := vN_len (ln k) (fun y hy => (hIk.1 y hy).1)
      rw [hZ, List.length_map] at this
      rw [hZ]
      exact this
    obtain ⟨kk1, kk2, kk3, kk4, kla, _⟩ := F1.kd
    refine v_lst3 (q := 39) dX8_rise_38 rfl (by decide) rfl ?_
    refine v_ald0 (q := 40) dX8_rise_39 rfl rfl ?_
    refine v_lld3 (q := 41) dX8_rise_40 rfl ?_
    refine v_callV (q := 44) (d' := d + 8) (av := [.long x]) dX8_rise_41 rfl ok_X8_windowAt CL7 ml_X8_82 im_X8_windowAt se_X8_windowAt (by assumption) (by omega) rfl rfl (Nat.le_of_ble_eq_true rfl) ?_
    refine k_windowAt (d := d + 2) kk1 kk2 kk3 kk4 kla F1.2.2.2.1 hE i2 i3 i1 (by omega) (fun r r1 r2 => ?_)
    have cnt : (x :: U).countP (fun x => decide (x ∈ allS ln)) = U.countP (fun x => decide (x ∈ allS ln)) + if decide (x ∈ allS ln) = true then 1 else 0 := List.countP_cons
    by_cases hcur : ∃ z ∈ Z, wB z.2 = b ∧ wE z.2 = e0
    · obtain ⟨⟨w, y⟩, hz, hz1, hz2⟩ := hcur
      have hz1 : wB y = b := hz1
      have hz2 : wE y = e0 := hz2
      have er := r1 (w, y) hz hz1 hz2
      subst er
      obtain ⟨Z1, Z2, hsp⟩ := List.append_of_mem hz
      subst hsp
      have hxs : x = sSl k y := by
        unfold sSl
        rw [hz1, hz2]
        exact i2
      have hym : y ∈ ln k := by
        rw [hZ]
        exact List.mem_map_of_mem (f := (·.2)) hz
      have hyI := hIk.1 y hym
      have hLk : ln k = Z1.map (·.2) ++ y :: Z2.map (·.2) := by rw [hZ, List.map_append, List.map_cons]
      obtain ⟨P', eg⟩ := hP.hit (how := how) h1s hs0 i1 hLk hxs
      have hall : x ∈ allS ln := allS_mem.mpr ⟨k, i1, y, hym, hxs⟩
      rw [cnt, if_pos (decide_eq_true hall)] at hpt
      have hgv := (show LnI ses s k sp mk rows (Z1.map (·.2) ++ y :: Z2.map (·.2)) by rw [← hLk]; exact hIk).give (how := how)
      have hext : ∀ j, j < 1000 → (upR ln k (Z1.map (·.2) ++ (finW s k how True rows y).1 :: Z2.map (·.2)) j).map ext = (ln j).map ext := fun j hj => by
        by_cases e : j = k
        · subst e
          rw [show upR ln j (Z1.map (·.2) ++ (finW s j how True rows y).1 :: Z2.map (·.2)) j = Z1.map (·.2) ++ (finW s j how True rows y).1 :: Z2.map (·.2) from if_pos rfl, hLk, List.map_append, List.map_append, List.map_cons, List.map_cons, finT_ext]
        · rw [show upR ln k (Z1.map (·.2) ++ (finW s k how True rows y).1 :: Z2.map (·.2)) j = ln j from if_neg e]
      have hvy : (wVs y).length ≤ vN (ln k) := by
        rw [hLk, vN_app, vN_cons]
        omega
      refine v_ast5 (q := 46) dX8_rise_44 rfl (by decide) rfl rfl ?_
      refine v_ald5 (q := 48) dX8_rise_46 rfl rfl ?_
      refine v_ifnull (r := some w) (t := 65) (q := 51) dX8_rise_48 (by decide) rfl (fun ha => by cases ha) (fun _ _ => ?_)
      refine rs51 (d := d) (n := (U ++ Rst).length) (x := x) W1 F1 hZ hs6 i1 hh hyI.2.1 hyI.1 (by omega) (by omega) (by omega) ((sp1.2.2.1 26).trans f26) (fun h2 ow2 s2' c2' W2 f2 p2 l2 y1 y2 => ?_)
      have u := sm_upd cR ln i1 (Z1.map (·.2) ++ (finW s k how True rows y).1 :: Z2.map (·.2))
      have hle := sm_le cR ln i1
      have g2 := hgv.2.1
      rw [← hLk] at g2
      obtain ⟨more, em⟩ := hgv.2.2.1
      have ea := allS_ext hext
      have evN : sm vN (upR ln k (Z1.map (·.2) ++ (finW s k how True rows y).1 :: Z2.map (·.2))) = sm vN ln := by
        unfold sm
        exact fb_sm_cong (fun j hj => (ext_cnt (hext j hj) 0 mk).1)
      refine ih h2 ow2 _ _ (x :: D2) s2' c2' (b2 + 1) _ _ _ W2 P' (List.pairwise_cons.mp hpw).2 (fun z hz => hUe z (List.mem_cons_of_mem _ hz)) l2 (by rw [ea]; omega) (by omega) (by rw [evN]; exact hv) (by omega) (fun h3 ow3 ln3 rows3 D3 s3 c3 b3 n3 v3 v4 v5 e3 W3 P3 x3 f3 p3 l3 q3 bb3 y3 y4 m3 => ?_)
      rw [ea] at q3
      obtain ⟨more3, em3⟩ := m3
      refine hQ h3 ow3 ln3 rows3 D3 s3 c3 b3 n3 v3 v4 v5 (by rw [List.foldl_cons, eg]; exact e3) W3 P3 (fun j hj => (x3 j hj).trans (hext j hj)) (frS1.tr (f2.tr f3)) (((PFl.of sp1).mono (fun _ h => absurd h List.not_mem_nil)).tr (p2.tr p3 (fun _ h => h) (fun _ h => h)) (fun _ h => h) (fun _ h => h)) l3 (by rw [cnt, if_pos (decide_eq_true hall)]; omega) (by rw [List.length_cons]; omega) (by omega) (by omega) ⟨more ++ more3, by rw [em3, em, List.append_assoc]⟩
    · have hno : ∀ z ∈ Z, ¬ (wB z.2 = b ∧ wE z.2 = e0) := fun z hz hh => hcur ⟨z, hz, hh⟩
      have er := r2 hno
      subst er
      have hmis : ∀ j, j < 1000 → ∀ w ∈ ln j, x ≠ sSl j w := fun j hj w hw hx => by
        rw [i2] at hx
        obtain ⟨e1, e2, e3⟩ := slot_inj i3 ((hP.1 j hj).vb h1s hw) i1 hj hx
        subst e1
        rw [hZ] at hw
        obtain ⟨z, hz, ez⟩ := List.mem_map.mp hw
        exact hno z hz ⟨by rw [ez]; exact e2.symm, by rw [ez]; exact e3.symm⟩
      have eg := hP.miss_gv (how := how) hmis
      have hall : ¬ x ∈ allS ln := fun hin => by
        obtain ⟨j, hj, w, hw, e⟩ := allS_mem.mp hin
        exact hmis j hj w hw e
      rw [cnt, if_neg (fun q => hall (of_decide_eq_true q))] at hpt hQ
      refine v_ast5 (q := 46) dX8_rise_44 rfl (by decide) rfl rfl ?_
      refine v_ald5 (q := 48) dX8_rise_46 rfl rfl ?_
      refine v_ifnull (r := none) (t := 65) (q := 51) dX8_rise_48 (by decide) rfl (fun _ => ?_) (fun a ha => by cases ha)
      refine v_inc2 (q := 68) dX8_rise_65 rfl (by decide) rfl rfl ?_
      rw [dec1]
      refine v_goto (q := 13) dX8_rise_68 (by decide) ?_
      refine ih h1 ow ln rows D2 s2 c2 b2 _ _ _ W1 (hP.skip hmis) (List.pairwise_cons.mp hpw).2 (fun z hz => hUe z (List.mem_cons_of_mem _ hz)) ((sp1.2.2.1 26).trans f26) (by omega) (by omega) hv (by omega) (fun h3 ow3 ln3 rows3 D3 s3 c3 b3 n3 v3 v4 v5 e3 W3 P3 x3 f3 p3 l3 q3 bb3 y3 y4 m3 => ?_)
      refine hQ h3 ow3 ln3 rows3 D3 s3 c3 b3 n3 v3 v4 v5 (by rw [List.foldl_cons, eg]; exact e3) W3 P3 x3 (frS1.tr f3) (((PFl.of sp1).mono (fun _ h => absurd h List.not_mem_nil)).tr p3 (fun _ h => h) (fun _ h => h)) l3 (by omega) (by rw [List.length_cons]; omega) (by omega) (by omega) m3
end L68
