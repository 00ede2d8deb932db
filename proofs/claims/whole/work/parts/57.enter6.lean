/-! 57: Windowed: enter, of the whole stage -/
def vN (L : List Wd) : Nat := (L.map (fun x => (wVs x).length)).sum
def S6 (s k : Nat) : Nat → Prop := fun t => S5 s k t ∨ t = tA s
section L57
variable {g : Gl} {d : Nat} {h : Hp} {Q : Option Value → Hp → Prop} {ow : Nat → Nat} {s p lg A q1 q2 how c k la al e : Nat} {sl ce : Nat} {rows : List Rw}
theorem zN_map (Z : Zw) : zN Z = vN (Z.map (·.2)) := by
  unfold zN vN
  rw [List.map_map]
  rfl
/-- the lane of k, new -/
theorem lnF_new (hC : WgC h ow s p lg A q1 q2) (h20 : fI h 20 p = nI how) (hL : LogV h ow lg rows) (gd : Gd g h ow) (hs6 : s < 16) (hk : k < 1000) : LnF g (sAP (laH g h) A (va_up (aP (laH g h) A) k (some (hz h)))) (owX ow h (tg s k)) s p lg A q1 q2 how c k (hz h) (hz h + 1) g.2.2.2.2.1 [] 5 2 rows ∧ Fr ow (owX ow h (tg s k)) (fun t => t = tg s k ∨ t = tA s) h (sAP (laH g h) A (va_up (aP (laH g h) A) k (some (hz h)))) ∧ sameAt h (sAP (laH g h) A (va_up (aP (laH g h) A) k (some (hz h)))) p ∧ (∀ j, j ≠ k → aP (sAP (laH g h) A (va_up (aP (laH g h) A) k (some (hz h)))) A j = aP h A j) := by
  obtain ⟨k1, k2, k3, k4, k5, k6, k7, k8⟩ := laH_kd (g := g) (h := h)
  have hA := hC.2.2.2.2.2.2.2.2.2
  have lt := hC.lt gd.1
  have sX : ∀ a, a < hz h → sameAt h (laH g h) a := fun a ha => laH_same ha
  have wX := laH_wf (g := g) gd.1
  have zX : hz h ≤ hz (laH g h) := by omega
  generalize laH g h = X at *
  have fr := laneN_fr (k := k) (r := va_up (aP X A) k (some (hz h))) sX zX hA
  have gd' := laneN_gd (k := k) (r := va_up (aP X A) k (some (hz h))) sX zX wX hA gd
  have ls := laneN_s (how := how) gd' k1 k2 k3 k4 k5
  have npA : p ≠ A := fun e => by
    have h1 := hC.1
    have h2 := hC.2.2.2.2.2.2.2.1
    rw [e, h2] at h1
    omega
  have sp : sameAt h (sAP X A (va_up (aP X A) k (some (hz h)))) p := (sX p lt.1).tr (same_sAP npA)
  have sA := sX A lt.2
  refine ⟨⟨hC.on (PFl.of sp) (by decide) (if_pos lt.1) (if_pos lt.2) ?_ ?_, (sp.2.2.1 20).trans h20, ?_, ls, ?_, lcost_nil gd', hL.fr gd.1 fr ?_, gd'⟩, fr, sp, fun j hj => ?_⟩
  · rw [hK_sAP]
    exact sA.1
  · rw [hN_sAP]
    exact sA.2.1
  · rw [aP_sAP, if_pos rfl]
    exact if_pos rfl
  · rw [fI_sAP]
    exact k6
  · intro hh
    unfold tL tg tA at hh
    omega
  · rw [aP_sAP, if_pos rfl, va_up_ne _ _ hj, sA.2.2.2.2.2.2.2]
theorem wg_done {ln : Nat → List Wd} {ac : Nat → Nat × Nat} {D1 D2 : List Int64} {s1 c1 b1 s2 c2 b2 : Nat} {h1 h' : Hp} {ow1 ow' : Nat → Nat} {Z : Zw} {rows' : List Rw} (hL : WgL g h ow s A how c ln ac) (gd : Gd g h ow) (hs6 : s < 16) (hC : WgC h ow s p lg A q1 q2)
    (f1 : Fr ow ow1 (fun t => t = tg s k ∨ t = tA s) h h1) (a1 : ∀ j, j ≠ k → aP h1 A j = aP h A j) (f2 : Fr ow1 ow' (S5 s k) h1 h') (hF : LnF g h' ow' s p lg A q1 q2 how c k la al e Z sl ce rows') (G1 : HpL h' ow' (tD s) q1 D1 s1 c1 b1) (G2 : HpL h' ow' (tQ s) q2 D2 s2 c2 b2) (hk : k < 1000) :
    WG g h' ow' s p lg A q1 q2 how c (upR ln k (Z.map (·.2))) (upR ac k (sl, ce)) rows' D1 D2 s1 c1 b1 s2 c2 b2 ∧ Fr ow ow' (S6 s k) h h' := by
  have fr : Fr ow ow' (S6 s k) h h' := (f1.mono (fun t e => e.elim (fun e => Or.inl (Or.inl e)) Or.inr)).tr (f2.mono (fun t e => Or.inl e))
  have hA := hC.2.2.2.2.2.2.2.2.2
  have zA := (hC.lt gd.1).2
  have sA : sameAt h1 h' A := f2.2.2 A (Nat.lt_of_lt_of_le zA f1.1) (by
    rw [f1.2.1 A zA, hA]
    unfold S5 tA tg tP tL tD tQ
    omega)
  refine ⟨⟨hF.1, hF.2.1, hL.one gd fr (fun j hj hne => ?_) ?_ (fun j hj => ?_) hF.laneO, hF.2.2.2.2.2.2.1, G1, G2, hF.2.2.2.2.2.2.2⟩, fr⟩
  · unfold S6 S5 tg tP tL tD tQ tA
    omega
  · unfold S6 S5 tg tP tL tD tQ tA
    omega
  · rw [sA.2.2.2.2.2.2.2]
    exact a1 j hj
theorem k_enter {ea : Nat} {ses : Bool} {b mk sp lt : Int32} {v : Int64} {ln : Nat → List Wd} {ac : Nat → Nat × Nat} {D1 D2 : List Int64} {s1 c1 b1 s2 c2 b2 : Nat} (hW : WG g h ow s p lg A q1 q2 how c ln ac rows D1 D2 s1 c1 b1 s2 c2 b2)
    (hs6 : s < 16) (hk : k < 1000) (hc : ses = true → c = 1) (hh : how ≤ 5) (hO : LnOK s k rows (ln k)) (hN : vN (ln k) + 1 < 1000000) (hn : rows.length + (ln k).length + 2 < 192512) (fm : fI h 1 p = mk) (f13 : fI h 13 p = sp) (f21 : fI h 21 p = lt) (fe : fI h 22 p = nI ea) (hea : ea < 2147483648) (hb1 : b1 < 400000) (hb2 : b2 < 400000) (f15 : fI h 15 p = if ses then 1 else 0)
    (hQ0 : b + sp + lt ≤ mk → Q none (sFI h 23 p (fI h 23 p + 1)))
    (hQ1 : ¬ (b + sp + lt ≤ mk) → ∀ h' ow' sl' ce' s1' c1' s2' c2', WG g h' ow' s p lg A q1 q2 how c (upR ln k (entLn ses s k how ea mk b (b + sp) v (ln k) rows)) (upR ac k (sl', ce')) (entW ses s k how ea mk b (b + sp) v (ln k) rows).2 (dueA (entC ses b (b + sp) v (entT ses b (b + sp) (ln k)) = true) mk k (wB (entX ses b (b + sp) v (entT ses b (b + sp) (ln k)))) (wE (entX ses b (b + sp) v (entT ses b (b + sp) (ln k)))) D1) (pasA (entC ses b (b + sp) v (entT ses b (b + sp) (ln k)) = true) mk k (wB (entX ses b (b + sp) v (entT ses b (b + sp) (ln k)))) (wE (entX ses b (b + sp) v (entT ses b (b + sp) (ln k)))) D2) s1' c1' (b1 + 1) s2' c2' (b2 + 1) →
      Fr ow ow' (S6 s k) h h' → PFl [24, 25, 26] p h h' → fI h' 24 p = fI h 24 p + 1 - nI (entT ses b (b + sp) (ln k)).length → fI h' 25 p = fI h 25 p + 1 → fI h' 26 p = entF ses s k ea mk b (b + sp) v (ln k) rows (fI h 26 p) →
      hs h' + (ac k).1 + s1 + s2 + lgS rows.length ≤ hs h + sl' + s1' + s2' + lgS (entW ses s k how ea mk b (b + sp) v (ln k) rows).2.length → hz h' + (ac k).2 + c1 + c2 + lgZ rows.length ≤ hz h + ce' + c1' + c2' + lgZ (entW ses s k how ea mk b (b + sp) v (ln k) rows).2.length → Q none h') :
    Call g mX8_enter (d + 9) [.ref p, .int (nI k), .int b, .long v] h Q := by
  obtain ⟨hC, h20, hL, hLog, hD1, hD2, gd⟩ := hW
  have k1 : hK h p = 8 := hC.1
  refine Call.of [.ref p, .int (nI k), .int b, .long v, zz, zz, zz, zz, zz, zz] (by decide) (Nat.le_of_ble_eq_true rfl) rfl ?_
  refine v_ild2 (q := 1) dX8_enter_0 rfl ?_
  refine v_ald0 (q := 2) dX8_enter_1 rfl rfl ?_
  refine v_getI (q := 5) dX8_enter_2 rfl gf_X8_37_7 (by assumption) ?_
  refine v_iadd (q := 6) dX8_enter_5 rfl ?_
  refine v_ist5 (q := 8) dX8_enter_6 rfl (by decide) rfl ?_
  refine v_ild5 (q := 10) dX8_enter_8 rfl ?_
  refine v_ald0 (q := 11) dX8_enter_10 rfl rfl ?_
  refine v_getI (q := 14) dX8_enter_11 rfl gf_X8_94_7 (by assumption) ?_
  refine v_iadd (q := 15) dX8_enter_14 rfl ?_
  refine v_ald0 (q := 16) dX8_enter_15 rfl rfl ?_
  refine v_getI (q := 19) dX8_enter_16 rfl gf_X8_63_7 (by assumption) ?_
  rw [f13, f21, fm]
  by_cases hd : b + sp + lt ≤ mk
  · refine v_icmp_gt (t := 33) (q := 22) dX8_enter_19 (by decide) rfl (fun hc => absurd hd (Int32.not_le.mpr hc)) (fun _ => ?_)
    refine v_ald0 (q := 23) dX8_enter_22 rfl rfl ?_
    refine v_dup (q := 24) dX8_enter_23 rfl rfl ?_
    refine v_getI (q := 27) dX8_enter_24 rfl gf_X8_146_7 (by assumption) ?_
    refine v_iconst (q := 28) (v := 1) dX8_enter_27 rfl (by decide) ?_
    refine v_iadd (q := 29) dX8_enter_28 rfl ?_
    refine v_putI (q := 32) dX8_enter_29 rfl pf_X8_146_7 (by assumption) rfl rfl ?_
    refine v_vret dX8_enter_32 rfl ?_
    exact hQ0 hd
  · refine v_icmp_gt (t := 33) (q := 22) dX8_enter_19 (by decide) rfl (fun _ => ?_) (fun hc => absurd (Int32.not_le.mp hd) hc)
    refine v_ald0 (q := 34) dX8_enter_33 rfl rfl ?_
    refine v_ild1 (q := 35) dX8_enter_34 rfl ?_
    refine v_callV (q := 38) (d' := d + 8) (av := [.int (nI k)]) dX8_enter_35 rfl ok_X8_laneOf CL7 ml_X8_149 im_X8_laneOf se_X8_laneOf (by assumption) (by omega) rfl rfl (Nat.le_of_ble_eq_true rfl) ?_
    rcases hL k hk with ⟨o1, o2, o3, o4⟩ | ⟨la, al, e, Z, o1, o2, o3, o4, o5⟩
    · refine k_laneOfN (d := d + 3) k1 hC.2.2.2.2.1 hC.2.2.2.2.2.2.2.1 hC.2.2.2.2.2.2.2.2.1 hk o1 gd.1 ?_
      obtain ⟨F1, f1, sp1, a1⟩ := lnF_new (how := how) (c := c) (k := k) hC h20 hLog gd hs6 hk
      have z1 : hz (sAP (laH g h) A (va_up (aP (laH g h) A) k (some (hz h)))) = hz h + 2 := by rw [hz_sAP]; exact laH_kd.2.2.2.2.2.2.1
      have z2 : hs (sAP (laH g h) A (va_up (aP (laH g h) A) k (some (hz h)))) = hs h + 5 := by rw [hs_sAP]; exact laH_kd.2.2.2.2.2.2.2
      generalize sAP (laH g h) A (va_up (aP (laH g h) A) k (some (hz h))) = h1 at *
      have nD : ¬ (tD s = tg s k ∨ tD s = tA s) := by unfold tD tg tA; omega
      have nQ : ¬ (tQ s = tg s k ∨ tQ s = tA s) := by unfold tQ tg tA; omega
      rw [o2] at hO hN hn hQ1
      refine en38 (d := d) (Z := []) (fun Z1 Zb e1 e2 => ?_) F1 hs6 hk hc hh hO (by rw [zN_map]; exact hN) (by exact hn) ((sp1.2.2.1 1).trans fm) ((sp1.2.2.1 22).trans fe) hea (hD1.fr gd.1 f1 nD) (hD2.fr gd.1 f1 nQ) hb1 hb2 ((sp1.2.2.1 15).trans f15)
      intro h' ow' e' w' sl' ce' s1' c1' s2' c2' F2 G1 G2 f2 p2 l24 l25 l26 y1 y2
      obtain ⟨W, fr⟩ := wg_done hL gd hs6 hC f1 a1 f2 F2 G1 G2 hk
      have el : (Z1 ++ (w', (finW s k how (entG ses s k rows (entT ses b (b + sp) ([] : Zw).unzip.2) mk ea (entX ses b (b + sp) v (entT ses b (b + sp) ([] : Zw).unzip.2)) = true) (entRw ses s k rows (entT ses b (b + sp) ([] : Zw).unzip.2)) (entX ses b (b + sp) v (entT ses b (b + sp) ([] : Zw).unzip.2))).1) :: Zb).map (·.2) = entLn ses s k how ea mk b (b + sp) v [] rows := by
        rw [List.map_append, List.map_cons, e1, e2]
        rfl
      have W2 := W
      rw [show (Z1 ++ (w', (finW s k how (entG ses s k rows (entT ses b (b + sp) (List.map (·.2) ([] : Zw))) mk ea (entX ses b (b + sp) v (entT ses b (b + sp) (List.map (·.2) ([] : Zw)))) = true) (entRw ses s k rows (entT ses b (b + sp) (List.map (·.2) ([] : Zw)))) (entX ses b (b + sp) v (entT ses b (b + sp) (List.map (·.2) ([] : Zw))))).1) :: Zb).map (·.2) = entLn ses s k how ea mk b (b + sp) v [] rows from el] at W2
      refine hQ1 hd h' ow' sl' ce' s1' c1' s2' c2' W2 fr (((PFl.of sp1).mono (fun _ h => absurd h List.not_mem_nil)).tr p2 (fun _ h => h) (fun _ h => h)) (by rw [l24, sp1.2.2.1 24]; rfl) (by rw [l25, sp1.2.2.1 25]) (by rw [l26, sp1.2.2.1 26]; rfl) ?_ ?_
      · rw [o3]
        have y1' : hs h' + 5 + s1 + s2 + lgS rows.length ≤ hs h1 + sl' + s1' + s2' + lgS (entW ses s k how ea mk b (b + sp) v [] rows).2.length := y1
        omega
      · rw [o4]
        have y2' : hz h' + 2 + c1 + c2 + lgZ rows.length ≤ hz h1 + ce' + c1' + c2' + lgZ (entW ses s k how ea mk b (b + sp) v [] rows).2.length := y2
        omega
    · refine k_laneOfE (d := d + 3) (A := A) (la := la) k1 hC.2.2.2.2.1 hC.2.2.2.2.2.2.2.1 hC.2.2.2.2.2.2.2.2.1 hk o1 ?_
      have F1 : LnF g h ow s p lg A q1 q2 how c k la al e Z (ac k).1 (ac k).2 rows := ⟨hC, h20, o1, o2, o4, o5, hLog, gd⟩
      have hZl : (ln k).length = Z.length := by rw [o3, List.length_map]
      rw [hZl] at hn
      rw [o3] at hO hN hQ1
      refine en38 (d := d) (Z := Z) (fun Z1 Zb e1 e2 => ?_) F1 hs6 hk hc hh hO (by rw [zN_map]; exact hN) hn fm fe hea hD1 hD2 hb1 hb2 f15
      intro h' ow' e' w' sl' ce' s1' c1' s2' c2' F2 G1 G2 f2 p2 l24 l25 l26 y1 y2
      obtain ⟨W, fr⟩ := wg_done hL gd hs6 hC (Fr.rf h) (fun _ _ => rfl) f2 F2 G1 G2 hk
      rw [List.map_append, List.map_cons, e1, e2] at W
      exact hQ1 hd h' ow' sl' ce' s1' c1' s2' c2' W fr p2 l24 l25 l26 y1 y2
end L57
