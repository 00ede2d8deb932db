/-! A2: WindowMill: stage, the walk -/
theorem va_up_ap {α : Type} (f : Nat → α) (k : Nat) (v : α) (i : Nat) : va_up f k v i = if i = k then v else f i := rfl
theorem aP_sAP_at (h : Hp) (a : Nat) (r : Nat → Option Nat) : aP (sAP h a r) a = r := upR_at _ _ _
theorem aP_sAP_ne (h : Hp) {a b : Nat} (r : Nat → Option Nat) (e : b ≠ a) : aP (sAP h a r) b = aP h b := upR_ne _ _ e
section LA2
variable {g : Gl} {d : Nat} {h h1 : Hp} {ow ow1 us uz : Nat → Nat} {c lg SA ST WY p ci US UZ : Nat} {po sp : Nat → Nat} {X : Sg} {Q : Option Value → Hp → Prop} {kd a b : Int32}
theorem st59 (hM : MV g h1 ow1 c lg SA ST WY po sp X us uz) (hI : MI X) (hsd : saidB kd a b = true) (hV : StV g h1 ow1 (xM X) p lg (newS kd a b) (xR X) US UZ) (hm : xM X < 16) (kp : hK h1 p = ci + 1) (hA26 : AsO ci 26) (hA25 : AsO ci 25) (hF : Fr ow ow1 CS h h1)
    (hL1 : hs h1 ≤ hs h + US + 1100) (hL2 : hz h1 ≤ hz h + UZ + 10) (hQ : CQ g c lg SA ST WY po h ow us uz X Q (nI (xM X)) (xNew X kd a b)) :
    V g mX9_stage (d + 5) 59 [.ref c, .int kd, .int a, .int b, zz] [.ref p] h1 Q := by
  have gd := hM.2.2.2.2.2.2
  have a1 : hK h1 c = 9 := hM.1.1
  have a2 : ow1 c = tM := hM.1.2.1
  have a3 : fP h1 42 c = some SA := hM.1.2.2.1
  have a4 : fP h1 43 c = some ST := hM.1.2.2.2.1
  have a7 : fI h1 46 c = nI (xM X) := hM.1.2.2.2.2.2.2.1
  obtain ⟨b1, b2, b3, b4, b5, b6, b7, b8, b9⟩ := hM.2.1
  have nST : ST ≠ SA := fun e => by rw [e, b1] at b4; cases b4
  refine v_ast4 (q := 61) dX9_stage_59 rfl (by decide) rfl rfl ?_
  refine v_ald0 (q := 62) dX9_stage_61 rfl rfl ?_
  refine v_getR (q := 65) dX9_stage_62 rfl gf_X9_17_8 (by assumption) (by assumption) ?_
  refine v_ald0 (q := 66) dX9_stage_65 rfl rfl ?_
  refine v_getI (q := 69) dX9_stage_66 rfl gf_X9_37_8 (by assumption) ?_
  rw [a7]
  refine v_ald4 (q := 71) dX9_stage_69 rfl rfl ?_
  refine v_aast (q := 72) (xM X) dX9_stage_71 rfl b4 hA26 kp rfl (by omega) (by omega) ?_
  have m1 : Smo (fun q => q = ST ∨ q = SA ∨ q = c) h1 (sAP h1 ST (va_up (aP h1 ST) (xM X) (some p))) := (Smo.rf (S := fun q => q = ST ∨ q = SA ∨ q = c) h1).andAP (Or.inl (Or.inl rfl))
  have c1 : hK (sAP h1 ST (va_up (aP h1 ST) (xM X) (some p))) c = 9 := a1
  have c3 : fP (sAP h1 ST (va_up (aP h1 ST) (xM X) (some p))) 42 c = some SA := a3
  have c7 : fI (sAP h1 ST (va_up (aP h1 ST) (xM X) (some p))) 46 c = nI (xM X) := a7
  have c8 : fI (sAP h1 ST (va_up (aP h1 ST) (xM X) (some p))) 47 c = fI h1 47 c := rfl
  have cP : ∀ k, fP (sAP h1 ST (va_up (aP h1 ST) (xM X) (some p))) k c = fP h1 k c := fun _ => rfl
  have cK : ∀ q, hK (sAP h1 ST (va_up (aP h1 ST) (xM X) (some p))) q = hK h1 q := fun _ => rfl
  have cN : ∀ q, hN (sAP h1 ST (va_up (aP h1 ST) (xM X) (some p))) q = hN h1 q := fun _ => rfl
  have cT : ∀ i, aP (sAP h1 ST (va_up (aP h1 ST) (xM X) (some p))) ST i = if i = xM X then some p else aP h1 ST i := fun i => by
    rw [aP_sAP_at, va_up_ap]
  have cA : aP (sAP h1 ST (va_up (aP h1 ST) (xM X) (some p))) SA = aP h1 SA := aP_sAP_ne _ _ (Ne.symm nST)
  have cz : hz (sAP h1 ST (va_up (aP h1 ST) (xM X) (some p))) = hz h1 ∧ hs (sAP h1 ST (va_up (aP h1 ST) (xM X) (some p))) = hs h1 := ⟨rfl, rfl⟩
  generalize sAP h1 ST (va_up (aP h1 ST) (xM X) (some p)) = h2 at *
  refine v_ald0 (q := 73) dX9_stage_72 rfl rfl ?_
  refine v_getR (q := 76) dX9_stage_73 rfl gf_X9_11_8 (by assumption) (by assumption) ?_
  refine v_bipush (q := 78) (v := 8) dX9_stage_76 rfl (by decide) ?_
  refine v_ald0 (q := 79) dX9_stage_78 rfl rfl ?_
  refine v_getI (q := 82) dX9_stage_79 rfl gf_X9_37_8 (by assumption) ?_
  rw [c7]
  refine v_iadd (q := 83) dX9_stage_82 rfl ?_
  refine v_ald4 (q := 85) dX9_stage_83 rfl rfl ?_
  rw [show (8 : Int32) = nI 8 from rfl, nI_add]
  refine v_aast (q := 86) (8 + xM X) dX9_stage_85 rfl ((cK SA).trans b1) hA25 ((cK p).trans kp) rfl (by rw [cN, b2]; omega) (by rw [cN, b2]; decide) ?_
  have m2 : Smo (fun q => q = ST ∨ q = SA ∨ q = c) h1 (sAP h2 SA (va_up (aP h2 SA) (8 + xM X) (some p))) := m1.andAP (Or.inl (Or.inr (Or.inl rfl)))
  have e1 : hK (sAP h2 SA (va_up (aP h2 SA) (8 + xM X) (some p))) c = 9 := by rw [hK_sAP]; exact c1
  have e7 : fI (sAP h2 SA (va_up (aP h2 SA) (8 + xM X) (some p))) 46 c = nI (xM X) := by rw [fI_sAP]; exact c7
  have e8 : fI (sAP h2 SA (va_up (aP h2 SA) (8 + xM X) (some p))) 47 c = fI h1 47 c := by rw [fI_sAP]; exact c8
  have eP : ∀ k, fP (sAP h2 SA (va_up (aP h2 SA) (8 + xM X) (some p))) k c = fP h1 k c := by rw [fP_sAP]; exact cP
  have eK : ∀ q, hK (sAP h2 SA (va_up (aP h2 SA) (8 + xM X) (some p))) q = hK h1 q := by rw [hK_sAP]; exact cK
  have eN : ∀ q, hN (sAP h2 SA (va_up (aP h2 SA) (8 + xM X) (some p))) q = hN h1 q := by rw [hN_sAP]; exact cN
  have eT : ∀ i, aP (sAP h2 SA (va_up (aP h2 SA) (8 + xM X) (some p))) ST i = if i = xM X then some p else aP h1 ST i := fun i => by
    rw [aP_sAP_ne _ _ nST]
    exact cT i
  have eA : ∀ i, aP (sAP h2 SA (va_up (aP h2 SA) (8 + xM X) (some p))) SA i = if i = 8 + xM X then some p else aP h1 SA i := fun i => by
    rw [aP_sAP_at, va_up_ap, cA]
  have ez : hz (sAP h2 SA (va_up (aP h2 SA) (8 + xM X) (some p))) = hz h1 ∧ hs (sAP h2 SA (va_up (aP h2 SA) (8 + xM X) (some p))) = hs h1 := by rw [hz_sAP, hs_sAP]; exact cz
  generalize sAP h2 SA (va_up (aP h2 SA) (8 + xM X) (some p)) = h3 at *
  refine v_ald0 (q := 87) dX9_stage_86 rfl rfl ?_
  refine v_dup (q := 88) dX9_stage_87 rfl rfl ?_
  refine v_getI (q := 91) dX9_stage_88 rfl gf_X9_37_8 (by assumption) ?_
  rw [e7]
  refine v_dup_x1 (q := 92) dX9_stage_91 rfl rfl rfl ?_
  refine v_iconst (q := 93) (v := 1) dX9_stage_92 rfl (by decide) ?_
  refine v_iadd (q := 94) dX9_stage_93 rfl ?_
  rw [nI_1]
  refine v_putI (q := 97) dX9_stage_94 rfl pf_X9_37_8 (by assumption) rfl rfl ?_
  refine v_iret dX9_stage_97 rfl ?_
  have m3 : Smo (fun q => q = ST ∨ q = SA ∨ q = c) h1 (sFI h3 46 c (nI (xM X + 1))) := m2.andFI (Or.inl (Or.inr (Or.inr rfl)))
  have g46 : fI (sFI h3 46 c (nI (xM X + 1))) 46 c = nI (xM X + 1) := fi_eq _ _ _ _
  have g47 : fI (sFI h3 46 c (nI (xM X + 1))) 47 c = fI h1 47 c := (fi_ne _ _ _ _ (by decide)).trans e8
  have gP : ∀ k, fP (sFI h3 46 c (nI (xM X + 1))) k c = fP h1 k c := by rw [fP_sFI]; exact eP
  have gK : ∀ q, hK (sFI h3 46 c (nI (xM X + 1))) q = hK h1 q := by rw [hK_sFI]; exact eK
  have gN : ∀ q, hN (sFI h3 46 c (nI (xM X + 1))) q = hN h1 q := by rw [hN_sFI]; exact eN
  have gT : ∀ i, aP (sFI h3 46 c (nI (xM X + 1))) ST i = if i = xM X then some p else aP h1 ST i := by rw [aP_sFI]; exact eT
  have gA : ∀ i, aP (sFI h3 46 c (nI (xM X + 1))) SA i = if i = 8 + xM X then some p else aP h1 SA i := by rw [aP_sFI]; exact eA
  have gz : hz (sFI h3 46 c (nI (xM X + 1))) = hz h1 ∧ hs (sFI h3 46 c (nI (xM X + 1))) = hs h1 := by rw [hz_sFI, hs_sFI]; exact ez
  generalize sFI h3 46 c (nI (xM X + 1)) = h4 at *
  have fr : Fr ow1 ow1 (fun t => t = tM) h1 h4 := Fr.of0 m3 (fun q _ e => by
    rcases e with e | e | e
    · rw [e, b6]
    · rw [e, b3]
    · rw [e, a2])
  have wf4 : Wf h4 := fun q hq => by
    rw [gK] at hq
    rw [gz.1]
    exact gd.1 q hq
  have hM4 := hM.put hV hm fr wf4 g46 ⟨gK c, g47, gP⟩ ⟨gK SA, gN SA, gK ST, gN ST, gK WY, gN WY⟩ gA gT
  refine hQ h4 ow1 _ _ _ hM4 (hI.new hsd hm) (hF.tr (fr.mono (fun t e => by rw [e]; unfold CS tM; omega))) ?_
  have eM : xM (xNew X kd a b) = xM X + 1 := rfl
  have eR : xR (xNew X kd a b) = xR X := rfl
  unfold Lg
  rw [eM, eR, fb_sm_succ, fb_sm_succ, upR_at, upR_at, fb_sm_cong (f := upR us (xM X) US) (g := us) (fun k hk => upR_ne _ _ (by omega)), fb_sm_cong (f := upR uz (xM X) UZ) (g := uz) (fun k hk => upR_ne _ _ (by omega))]
  omega
theorem k_stage (hM : MV g h ow c lg SA ST WY po sp X us uz) (hI : MI X) (hQ : CQ g c lg SA ST WY po h ow us uz X Q (doStage X kd a b).1 (doStage X kd a b).2) : Call g mX9_stage (d + 5) [.ref c, .int kd, .int a, .int b] h Q := by
  have gd := hM.2.2.2.2.2.2
  have hLog := hM.2.2.2.2.2.1
  have a1 : hK h c = 9 := hM.1.1
  have a7 : fI h 46 c = nI (xM X) := hM.1.2.2.2.2.2.2.1
  have h16 : xM X ≤ 16 := hM.2.2.2.2.1
  refine Call.of [.ref c, .int kd, .int a, .int b, zz] (by decide) (Nat.le_of_ble_eq_true rfl) rfl ?_
  refine v_ild1 (q := 1) dX9_stage_0 rfl ?_
  refine v_ild2 (q := 2) dX9_stage_1 rfl ?_
  refine v_ild3 (q := 3) dX9_stage_2 rfl ?_
  refine v_callS (q := 6) (d' := d + 4) (av := [.int kd, .int a, .int b]) dX9_stage_3 rfl ok_X9_isAsSaid ml_X9_33 st_X9_isAsSaid (by omega) rfl rfl (Nat.le_of_ble_eq_true rfl) ?_
  refine k_isAsSaid (d := d + 3) ?_
  unfold doStage at hQ
  by_cases hsd : ¬ saidB kd a b = true
  · rw [if_neg hsd] at hQ
    rw [if_neg hsd]
    refine v_if_ne (t := 11) (q := 9) dX9_stage_6 (by decide) rfl (fun hc => absurd rfl hc) (fun _ => ?_)
    refine v_iconst (q := 10) (v := -1) dX9_stage_9 rfl (by decide) ?_
    refine v_iret dX9_stage_10 rfl ?_
    exact hQ h ow us uz sp hM hI (Fr.rf h) (Lg.rf h us uz X)
  have hsd := Classical.not_not.mp hsd
  rw [if_pos hsd] at hQ
  rw [if_pos hsd]
  refine v_if_ne (t := 11) (q := 9) dX9_stage_6 (by decide) rfl (fun _ => ?_) (fun hc => absurd hc (by decide))
  refine v_ald0 (q := 12) dX9_stage_11 rfl rfl ?_
  refine v_getI (q := 15) dX9_stage_12 rfl gf_X9_37_8 (by assumption) ?_
  rw [a7]
  refine v_bipush (q := 17) (v := 16) dX9_stage_15 rfl (by decide) ?_
  by_cases hm : ¬ xM X < 16
  · rw [if_neg hm] at hQ
    refine v_icmp_lt (t := 23) (q := 20) dX9_stage_17 (by decide) rfl (fun hc => absurd hc (show ¬ nI (xM X) < nI 16 from nI_nlt (by omega) (by omega))) (fun _ => ?_)
    refine v_bipush (q := 22) (v := -6) dX9_stage_20 rfl (by decide) ?_
    refine v_iret dX9_stage_22 rfl ?_
    exact hQ h ow us uz sp hM hI (Fr.rf h) (Lg.rf h us uz X)
  have hm := Classical.not_not.mp hm
  rw [if_pos hm] at hQ
  refine v_icmp_lt (t := 23) (q := 20) dX9_stage_17 (by decide) rfl (fun _ => ?_) (fun hc => absurd (show nI (xM X) < nI 16 from nI_lt hm (by decide)) hc)
  refine v_ild1 (q := 24) dX9_stage_23 rfl ?_
  refine v_iconst (q := 25) (v := 4) dX9_stage_24 rfl (by decide) ?_
  by_cases h4 : 4 ≤ kd
  · refine v_icmp_lt (t := 49) (q := 28) dX9_stage_25 (by decide) rfl (fun hc => absurd h4 (Int32.not_le.mpr hc)) (fun _ => ?_)
    have zc := hM.lt.1
    have a6 : fP h 45 c = some lg := hM.1.2.2.2.2.2.1
    refine v_new (q := 31) dX9_stage_28 rfl nw_X9_41 ?_
    have wfn : Wf (nObj h 8 20) := Wf_nObj gd.1
    have n1 : hK (nObj h 8 20) (hz h) = 8 := upR_at _ _ _
    have n9 : hK (nObj h 8 20) c = 9 := (upR_ne _ _ (by omega)).trans a1
    have n45 : fP (nObj h 8 20) 45 c = some lg := (if_neg (by omega)).trans a6
    have n46 : fI (nObj h 8 20) 46 c = nI (xM X) := (if_neg (by omega)).trans a7
    refine v_dup (q := 32) dX9_stage_31 rfl rfl ?_
    refine v_ald0 (q := 33) dX9_stage_32 rfl rfl ?_
    refine v_getI (q := 36) dX9_stage_33 rfl gf_X9_37_8 (by assumption) ?_
    rw [n46]
    refine v_ild1 (q := 37) dX9_stage_36 rfl ?_
    refine v_ild2 (q := 38) dX9_stage_37 rfl ?_
    refine v_ild3 (q := 39) dX9_stage_38 rfl ?_
    refine v_ald0 (q := 40) dX9_stage_39 rfl rfl ?_
    refine v_getR (q := 43) dX9_stage_40 rfl gf_X9_28_8 (by assumption) (by assumption) ?_
    refine v_callI (q := 46) (d' := d + 4) (av := [.int (nI (xM X)), .int kd, .int a, .int b, .ref lg]) dX9_stage_43 rfl ok_X8_init rfl rfl ml_X9_43 im_X8_init (by omega) rfl rfl (Nat.le_of_ble_eq_true rfl) ?_
    refine k_wgInit (d := d + 1) n1 (Nat.lt_succ_self _) wfn ?_
    obtain ⟨hW, fr, f3, f2, f4, f5⟩ := ws_new (kd := kd) (a := a) (b := b) gd hLog hm
    have wz1 := wgN_f (h := h) (s0 := nI (xM X)) (kd := kd) (a := a) (b := b) (lg := lg)
    obtain ⟨_, z1, z2, _⟩ := wz1
    change V g mX9_stage (d + 5) 46 _ _ (wgN h (nI (xM X)) kd a b lg) Q
    generalize wgN h (nI (xM X)) kd a b lg = h1 at *
    obtain ⟨q0, q1, q2, q3, q4, q5⟩ := said_w hsd h4
    have hw : isW (newS kd a b) = true := decide_eq_true h4
    have hM1 := hM.ext fr hW.log.2.1
    have s20 : sHow (newS kd a b) = 0 := rfl
    have s22 : sEa (newS kd a b) = 0 := rfl
    have s21 : gI (newS kd a b) 21 = 0 := rfl
    have s1 : gI (newS kd a b) 1 = 0 := rfl
    have hV : StV g h1 (owN ow h (xM X)) (xM X) (hz h) lg (newS kd a b) (xR X) 36 4 := by
      refine ⟨⟨hW.kd.2.1, f2, f3, f4, f5⟩, Or.inl ⟨hw, hW.kd.1, ⟨⟨hm, by rw [s20]; decide, by rw [s22]; decide, q1, q2, q3, q4, q5, by rw [s21]; decide, by rw [s21]; decide, by rw [s1]; decide, by rw [s1]; decide⟩, rfl, rfl, rfl, q0⟩, _, _, _, hW⟩⟩
    refine v_goto (q := 59) dX9_stage_46 (by decide) ?_
    exact st59 (d := d) hM1 hI hsd hV hm hW.kd.1 ⟨_, _, _, _, "WindowMill$Stage", CL7, rfl, by decide, by decide, Or.inr ca_X8_Stage⟩ ⟨_, _, _, _, "WindowMill$Source", CL7, rfl, by decide, by decide, Or.inr ca_X8_Source⟩ (fr.mono (fun t z => z.elim)) (by omega) (by omega) hQ
  · refine v_icmp_lt (t := 49) (q := 28) dX9_stage_25 (by decide) rfl (fun _ => ?_) (fun hc => absurd (Int32.not_le.mp h4) hc)
    refine v_new (q := 52) dX9_stage_49 rfl nw_X9_46 ?_
    have n1 : hK (nObj h 5 11) (hz h) = 5 := upR_at _ _ _
    refine v_dup (q := 53) dX9_stage_52 rfl rfl ?_
    refine v_ild1 (q := 54) dX9_stage_53 rfl ?_
    refine v_ild2 (q := 55) dX9_stage_54 rfl ?_
    refine v_ild3 (q := 56) dX9_stage_55 rfl ?_
    refine v_callI (q := 59) (d' := d + 4) (av := [.int kd, .int a, .int b]) dX9_stage_56 rfl ok_X4_init rfl rfl ml_X9_48 im_X4_init (by omega) rfl rfl (Nat.le_of_ble_eq_true rfl) ?_
    refine k_passInit (d := d + 1) n1 ?_
    have hw : isW (newS kd a b) = false := decide_eq_false h4
    have sm : Smo (fun _ => False) h (sFI (sFI (sFI (sFI (nObj h 5 11) 3 (hz h) kd) 2 (hz h) 1) 6 (hz h) a) 7 (hz h) b) := ((((Smo_nObj (S := fun _ => False) (h := h) (k := 5) (n := 11)).andFI (Or.inr (Nat.le_refl _))).andFI (Or.inr (Nat.le_refl _))).andFI (Or.inr (Nat.le_refl _))).andFI (Or.inr (Nat.le_refl _))
    have wf1 : Wf (sFI (sFI (sFI (sFI (nObj h 5 11) 3 (hz h) kd) 2 (hz h) 1) 6 (hz h) a) 7 (hz h) b) := Wf_same (h := nObj h 5 11) rfl rfl (Wf_nObj gd.1)
    have gI' : ∀ f, fI (sFI (sFI (sFI (sFI (nObj h 5 11) 3 (hz h) kd) 2 (hz h) 1) 6 (hz h) a) 7 (hz h) b) f (hz h) = if f = 7 then b else if f = 6 then a else if f = 2 then 1 else if f = 3 then kd else 0 := fun f => by
      rw [fI_sFI, fI_sFI, fI_sFI, fI_sFI]
      simp only [and_true]
      have : fI (nObj h 5 11) f (hz h) = 0 := if_pos rfl
      rw [this]
    have gL' : fL (sFI (sFI (sFI (sFI (nObj h 5 11) 3 (hz h) kd) 2 (hz h) 1) 6 (hz h) a) 7 (hz h) b) 11 (hz h) = 0 := if_pos rfl
    have gK : hK (sFI (sFI (sFI (sFI (nObj h 5 11) 3 (hz h) kd) 2 (hz h) 1) 6 (hz h) a) 7 (hz h) b) (hz h) = 5 := n1
    have z1 : hz (sFI (sFI (sFI (sFI (nObj h 5 11) 3 (hz h) kd) 2 (hz h) 1) 6 (hz h) a) 7 (hz h) b) = hz h + 1 := rfl
    have z2 : hs (sFI (sFI (sFI (sFI (nObj h 5 11) 3 (hz h) kd) 2 (hz h) 1) 6 (hz h) a) 7 (hz h) b) = hs h + 11 := rfl
    generalize sFI (sFI (sFI (sFI (nObj h 5 11) 3 (hz h) kd) 2 (hz h) 1) 6 (hz h) a) 7 (hz h) b = h1 at *
    have fr : Fr ow (owX ow h (tP (xM X))) (fun _ => False) h h1 := Fr.of sm (fun _ _ z => z)
    have hM1 := hM.ext fr wf1
    have hV : StV g h1 (owX ow h (tP (xM X))) (xM X) (hz h) lg (newS kd a b) (xR X) 0 0 := by
      refine ⟨⟨gI' 1, gI' 2, gI' 3, gI' 4, gI' 5⟩, Or.inr ⟨hw, gK, if_neg (Nat.lt_irrefl _), gI' 6, gI' 7, gI' 8, gI' 9, gI' 10, gL', rfl, rfl⟩⟩
    exact st59 (d := d) hM1 hI hsd hV hm gK ⟨_, _, _, _, "WindowMill$Stage", CL4, rfl, by decide, by decide, Or.inr ca_X4_Stage⟩ ⟨_, _, _, _, "WindowMill$Source", CL4, rfl, by decide, by decide, Or.inr ca_X4_Source⟩ (fr.mono (fun t z => z.elim)) (by omega) (by omega) hQ
end LA2
