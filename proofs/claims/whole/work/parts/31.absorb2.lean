/-! 31: Window.absorb whole -/
/-- begin, end, tally and number of events of w with o's -/
def abH (h : Hp) (w o : Nat) (how : Int32) : Hp := sFI (sFL (sFI (sFI h 35 w (if fI h 35 o < fI h 35 w then fI h 35 o else fI h 35 w)) 36 w (if fI h 36 w < fI h 36 o then fI h 36 o else fI h 36 w)) 39 w (cmb how (fL h 39 w) (fL h 39 o))) 37 w (fI h 37 w + fI h 37 o)
section L31
variable {g : Gl} {d : Nat} {h : Hp} {Q : Option Value → Hp → Prop}
theorem ab_head {w o : Nat} {how : Int32} (hk : hK h w = 7) (ho : hK h o = 7) (hne : o ≠ w) (k : V g mX7_absorb (d + 3) 38 [.ref w, .ref o, .int how, zz, zz, zz, zz] [] (abH h w o how) Q) : Call g mX7_absorb (d + 3) [.ref w, .ref o, .int how] h Q := by
  refine Call.of [.ref w, .ref o, .int how, zz, zz, zz, zz] (by decide) (Nat.le_of_ble_eq_true rfl) rfl ?_
  refine v_ald0 (q := 1) dX7_absorb_0 rfl rfl ?_
  refine v_ald1 (q := 2) dX7_absorb_1 rfl rfl ?_
  refine v_getI (q := 5) dX7_absorb_2 rfl gf_X7_18_6 (by assumption) ?_
  refine v_ald1 (q := 6) dX7_absorb_5 rfl rfl ?_
  refine v_getI (q := 9) dX7_absorb_6 rfl gf_X7_21_6 (by assumption) ?_
  refine v_callV (q := 12) (d' := d + 2) (av := [.int (fI h 35 o), .int (fI h 36 o)]) dX7_absorb_9 rfl ok_X7_widen CL6 ml_X7_48 im_X7_widen se_X7_widen (by assumption) (by omega) rfl rfl (Nat.le_of_ble_eq_true rfl) ?_
  refine k_widen (d := d + 1) hk ?_
  generalize hb : (if fI h 35 o < fI h 35 w then fI h 35 o else fI h 35 w) = b
  generalize he : (if fI h 36 w < fI h 36 o then fI h 36 o else fI h 36 w) = e
  have kw1 : hK (sFI (sFI h 35 w b) 36 w e) w = 7 := hk
  have ko1 : hK (sFI (sFI h 35 w b) 36 w e) o = 7 := ho
  refine v_ald0 (q := 13) dX7_absorb_12 rfl rfl ?_
  refine v_ald0 (q := 14) dX7_absorb_13 rfl rfl ?_
  refine v_ald1 (q := 15) dX7_absorb_14 rfl rfl ?_
  refine v_getL (q := 18) dX7_absorb_15 rfl gf_X7_44_6 (by assumption) ?_
  refine v_ild2 (q := 19) dX7_absorb_18 rfl ?_
  have l1 : fL (sFI (sFI h 35 w b) 36 w e) 39 o = fL h 39 o := rfl
  rw [l1]
  refine v_callV (q := 22) (d' := d + 2) (av := [.long (fL h 39 o), .int how]) dX7_absorb_19 rfl ok_X7_combined CL6 ml_X7_40 im_X7_combined se_X7_combined (by assumption) (by omega) rfl rfl (Nat.le_of_ble_eq_true rfl) ?_
  refine k_combined (d := d + 1) kw1 ?_
  have l2 : fL (sFI (sFI h 35 w b) 36 w e) 39 w = fL h 39 w := rfl
  rw [l2]
  generalize ht : cmb how (fL h 39 w) (fL h 39 o) = tl
  refine v_putL (q := 25) dX7_absorb_22 rfl pf_X7_44_6 (by assumption) ?_
  refine v_ald0 (q := 26) dX7_absorb_25 rfl rfl ?_
  refine v_dup (q := 27) dX7_absorb_26 rfl rfl ?_
  have kw2 : hK (sFL (sFI (sFI h 35 w b) 36 w e) 39 w tl) w = 7 := hk
  have ko2 : hK (sFL (sFI (sFI h 35 w b) 36 w e) 39 w tl) o = 7 := ho
  refine v_getI (q := 30) dX7_absorb_27 rfl gf_X7_37_6 (by assumption) ?_
  have f1 : fI (sFL (sFI (sFI h 35 w b) 36 w e) 39 w tl) 37 w = fI h 37 w := by
    rw [fI_sFL, fI_sFI, if_neg (fun x => absurd x.1 (by decide)), fI_sFI, if_neg (fun x => absurd x.1 (by decide))]
  rw [f1]
  refine v_ald1 (q := 31) dX7_absorb_30 rfl rfl ?_
  refine v_getI (q := 34) dX7_absorb_31 rfl gf_X7_37_6 (by assumption) ?_
  have f2 : fI (sFL (sFI (sFI h 35 w b) 36 w e) 39 w tl) 37 o = fI h 37 o := by
    rw [fI_sFL, fI_sFI, if_neg (fun x => absurd x.1 (by decide)), fI_sFI, if_neg (fun x => absurd x.1 (by decide))]
  rw [f2]
  refine v_iadd (q := 35) dX7_absorb_34 rfl ?_
  refine v_putI (q := 38) dX7_absorb_35 rfl pf_X7_37_6 (by assumption) rfl rfl ?_
  unfold abH at k
  rw [hb, he, ht] at k
  exact k
/-- absorb, where the values are not kept -/
theorem k_absorbT {w o : Nat} {how : Int32} (hk : hK h w = 7) (ho : hK h o = 7) (hne : o ≠ w) (w1 : fI h 41 w = 0) (w2 : fI h 41 o = 0) (w3 : fP h 40 o = none) (hQ : Q none (abH h w o how)) : Call g mX7_absorb (d + 3) [.ref w, .ref o, .int how] h Q := by
  refine ab_head hk ho hne ?_
  generalize hh : abH h w o how = h1 at hQ ⊢
  have a1 : hK h1 w = 7 := by rw [← hh]; exact hk
  have a2 : hK h1 o = 7 := by rw [← hh]; exact ho
  have a3 : fI h1 41 w = 0 := by
    rw [← hh]
    unfold abH
    rw [fI_sFI, if_neg (fun x => absurd x.1 (by decide)), fI_sFL, fI_sFI, if_neg (fun x => absurd x.1 (by decide)), fI_sFI, if_neg (fun x => absurd x.1 (by decide))]
    exact w1
  have a4 : fI h1 41 o = 0 := by
    rw [← hh]
    unfold abH
    rw [fI_sFI, if_neg (fun x => absurd x.1 (by decide)), fI_sFL, fI_sFI, if_neg (fun x => absurd x.1 (by decide)), fI_sFI, if_neg (fun x => absurd x.1 (by decide))]
    exact w2
  have a5 : fP h1 40 o = none := by rw [← hh]; exact w3
  refine v_ald1 (q := 39) dX7_absorb_38 rfl rfl ?_
  refine v_getI (q := 42) dX7_absorb_39 rfl gf_X7_52_6 (by assumption) ?_
  refine v_ald0 (q := 43) dX7_absorb_42 rfl rfl ?_
  refine v_getI (q := 46) dX7_absorb_43 rfl gf_X7_52_6 (by assumption) ?_
  rw [a3, a4]
  refine v_icmp_le (t := 53) (q := 49) dX7_absorb_46 (by decide) rfl (fun _ => ?_) (fun hc => absurd (Int32.le_refl _) hc)
  refine v_iconst (q := 54) (v := 0) dX7_absorb_53 rfl (by decide) ?_
  refine v_ist3 (q := 55) dX7_absorb_54 rfl (by decide) rfl ?_
  refine v_ild3 (q := 56) dX7_absorb_55 rfl ?_
  refine v_if_eq (t := 66) (q := 59) dX7_absorb_56 (by decide) rfl (fun _ => ?_) (fun hc => absurd rfl hc)
  refine v_ald1 (q := 67) dX7_absorb_66 rfl rfl ?_
  refine v_getP (q := 70) dX7_absorb_67 rfl gf_X7_55_6 (by assumption) ?_
  rw [a5]
  refine v_ast4 (q := 72) dX7_absorb_70 rfl (by decide) rfl rfl ?_
  refine v_ald0 (q := 73) dX7_absorb_72 rfl rfl ?_
  refine v_getI (q := 76) dX7_absorb_73 rfl gf_X7_52_6 (by assumption) ?_
  refine v_ald1 (q := 77) dX7_absorb_76 rfl rfl ?_
  refine v_getI (q := 80) dX7_absorb_77 rfl gf_X7_52_6 (by assumption) ?_
  rw [a3, a4]
  refine v_callS (q := 83) (d' := d + 2) (av := [.int 0, .int 0]) dX7_absorb_80 rfl ok_J9_min_7cf53 ml_X7_24 st_J9_min_7cf53 (by omega) rfl rfl (Nat.le_of_ble_eq_true rfl) ?_
  refine k_minI ?_
  rw [if_neg (show ¬ (0 : Int32) < 0 by decide)]
  refine v_ist5 (q := 85) dX7_absorb_83 rfl (by decide) rfl ?_
  refine v_ild3 (q := 86) dX7_absorb_85 rfl ?_
  refine v_if_eq (t := 105) (q := 89) dX7_absorb_86 (by decide) rfl (fun _ => ?_) (fun hc => absurd rfl hc)
  refine v_iconst (q := 106) (v := 0) dX7_absorb_105 rfl (by decide) ?_
  refine v_ist6 (q := 108) dX7_absorb_106 rfl (by decide) rfl ?_
  refine v_ald4 (q := 110) dX7_absorb_108 rfl rfl ?_
  refine v_ifnull (r := none) (t := 145) (q := 113) dX7_absorb_110 (by decide) rfl (fun _ => ?_) (fun a ha => by cases ha)
  refine v_vret dX7_absorb_145 rfl ?_
  exact hQ
/-- absorb, where the values are kept: the shorter row goes into the longer one -/
theorem k_absorbV {w o tw to : Nat} {how : Nat} {vs us : List Int64} (hV : Vv h w (some tw) vs) (hU : Vv h o (some to) us) (hne : o ≠ w) (htt : tw ≠ to) (hh : how = 4 ∨ how = 5) (s1 : vs.Pairwise (· ≤ ·)) (s2 : us.Pairwise (· ≤ ·)) (hlen : vs.length + us.length < 1000000) (wf : Wf h)
    (hQ : ∀ h' t' vs' t0, (us.length ≤ vs.length ∧ t0 = tw ∧ InsAll vs us (if how = 5 then 1 else 0) vs' ∨ vs.length < us.length ∧ t0 = to ∧ InsAll us vs (if how = 5 then 1 else 0) vs') → Vv h' w (some t') vs' → Smo (fun a => a = w ∨ a = t0) h h' → Wf h' → OnlyV w (abH h w o (nI how)) h' → (t' = t0 ∨ hz h ≤ t') → hz h' ≤ hz h + min vs.length us.length → hs h' + 2 * hN h t0 ≤ hs h + 2 * hN h' t' → hN h' t' ≤ max (hN h t0) (2 * vs'.length) → Q none h') : Call g mX7_absorb (d + 3) [.ref w, .ref o, .int (nI how)] h Q := by
  obtain ⟨hk, hsz, hp, hvl, hcase⟩ := hV
  obtain ⟨ho, hsu, hpu, hul, hcaseu⟩ := hU
  rcases hcase with ⟨e, -⟩ | ⟨t1, e, hv⟩
  · cases e
  cases e
  rcases hcaseu with ⟨e, -⟩ | ⟨t1, e, hu⟩
  · cases e
  cases e
  have ww := wf w (by omega)
  have wo := wf o (by omega)
  have wtw := wf tw (by have := hv.1; omega)
  have wto := wf to (by have := hu.1; omega)
  have n1 : w ≠ tw := fun e => by have := hv.1; rw [← e, hk] at this; cases this
  have n2 : w ≠ to := fun e => by have := hu.1; rw [← e, hk] at this; cases this
  refine ab_head hk ho hne ?_
  generalize hh1 : abH h w o (nI how) = h1 at hQ ⊢
  have a1 : hK h1 = hK h := by rw [← hh1]; rfl
  have a2 : hN h1 = hN h := by rw [← hh1]; rfl
  have a3 : fP h1 = fP h := by rw [← hh1]; rfl
  have a4 : aL h1 = aL h := by rw [← hh1]; rfl
  have a5 : ∀ a, fI h1 41 a = fI h 41 a := fun a => by
    rw [← hh1]
    unfold abH
    rw [fI_sFI, if_neg (fun x => absurd x.1 (by decide)), fI_sFL, fI_sFI, if_neg (fun x => absurd x.1 (by decide)), fI_sFI, if_neg (fun x => absurd x.1 (by decide))]
  have a6 : hz h1 = hz h := by rw [← hh1]; rfl
  have a7 : hs h1 = hs h := by rw [← hh1]; rfl
  have a8 : ∀ t0, Smo (fun a => a = w ∨ a = t0) h h1 := fun t0 => by rw [← hh1]; exact (((Smo_sFI (Or.inl rfl)).andFI (Or.inl (Or.inl rfl))).andFL (Or.inl (Or.inl rfl))).andFI (Or.inl (Or.inl rfl))
  have a9 : Wf h1 := Wf_same a6 a1 wf
  clear hh1
  have kw : hK h1 w = 7 := by rw [a1]; exact hk
  have ko : hK h1 o = 7 := by rw [a1]; exact ho
  have zw : fI h1 41 w = nI vs.length := by rw [a5]; exact hsz
  have zo : fI h1 41 o = nI us.length := by rw [a5]; exact hsu
  have pw : fP h1 40 w = some tw := by rw [a3]; exact hp
  have po : fP h1 40 o = some to := by rw [a3]; exact hpu
  have rv : Vrow h1 tw vs := ⟨by rw [a1]; exact hv.1, by rw [a2]; exact hv.2.1, by rw [a2]; exact hv.2.2.1, by rw [a2]; exact hv.2.2.2.1, by rw [a4]; exact hv.2.2.2.2⟩
  have ru : Vrow h1 to us := ⟨by rw [a1]; exact hu.1, by rw [a2]; exact hu.2.1, by rw [a2]; exact hu.2.2.1, by rw [a2]; exact hu.2.2.2.1, by rw [a4]; exact hu.2.2.2.2⟩
  refine v_ald1 (q := 39) dX7_absorb_38 rfl rfl ?_
  refine v_getI (q := 42) dX7_absorb_39 rfl gf_X7_52_6 (by assumption) ?_
  refine v_ald0 (q := 43) dX7_absorb_42 rfl rfl ?_
  refine v_getI (q := 46) dX7_absorb_43 rfl gf_X7_52_6 (by assumption) ?_
  rw [zw, zo]
  by_cases hle : us.length ≤ vs.length
  · refine v_icmp_le (t := 53) (q := 49) dX7_absorb_46 (by decide) rfl (fun _ => ?_) (fun hc => absurd (nI_le hle (by omega)) hc)
    refine v_iconst (q := 54) (v := 0) dX7_absorb_53 rfl (by decide) ?_
    refine v_ist3 (q := 55) dX7_absorb_54 rfl (by decide) rfl ?_
    refine v_ild3 (q := 56) dX7_absorb_55 rfl ?_
    refine v_if_eq (t := 66) (q := 59) dX7_absorb_56 (by decide) rfl (fun _ => ?_) (fun hc => absurd rfl hc)
    refine v_ald1 (q := 67) dX7_absorb_66 rfl rfl ?_
    refine v_getR (q := 70) dX7_absorb_67 rfl gf_X7_55_6 (by assumption) (by assumption) ?_
    refine v_ast4 (q := 72) dX7_absorb_70 rfl (by decide) rfl rfl ?_
    refine v_ald0 (q := 73) dX7_absorb_72 rfl rfl ?_
    refine v_getI (q := 76) dX7_absorb_73 rfl gf_X7_52_6 (by assumption) ?_
    refine v_ald1 (q := 77) dX7_absorb_76 rfl rfl ?_
    refine v_getI (q := 80) dX7_absorb_77 rfl gf_X7_52_6 (by assumption) ?_
    rw [zw, zo]
    refine v_callS (q := 83) (d' := d + 2) (av := [.int (nI vs.length), .int (nI us.length)]) dX7_absorb_80 rfl ok_J9_min_7cf53 ml_X7_24 st_J9_min_7cf53 (by omega) rfl rfl (Nat.le_of_ble_eq_true rfl) ?_
    refine k_minI ?_
    have em : (if nI us.length < nI vs.length then nI us.length else nI vs.length) = nI us.length := by
      by_cases c : us.length < vs.length
      · rw [if_pos (nI_lt c (by omega))]
      · rw [if_neg (nI_nlt (by omega) (by omega)), show vs.length = us.length by omega]
    rw [em]
    refine v_ist5 (q := 85) dX7_absorb_83 rfl (by decide) rfl ?_
    refine v_ild3 (q := 86) dX7_absorb_85 rfl ?_
    refine v_if_eq (t := 105) (q := 89) dX7_absorb_86 (by decide) rfl (fun _ => ?_) (fun hc => absurd rfl hc)
    refine v_iconst (q := 106) (v := 0) dX7_absorb_105 rfl (by decide) ?_
    refine v_ist6 (q := 108) dX7_absorb_106 rfl (by decide) rfl ?_
    refine ab_loop (h := h1) (t0 := tw) hh (Ne.symm htt) (Ne.symm n2) ru.1 ru.2.2.2.2 ru.2.1 ru.2.2.2.1 (by rw [a6]; exact wto) a9 us.length 0 h1 tw vs (by omega) (by omega) ⟨kw, zw, pw, hvl, Or.inr ⟨tw, rfl, rv⟩⟩ s1 (by omega) (Smo.rf h1) a9 ⟨fun _ _ => rfl, fun _ => rfl, fun _ _ => rfl⟩ (Or.inl rfl) (by omega) (by omega) (by omega) (fun vs' hi h' t' c1 c2 c3 c4 c5 c6 c7 c8 => ?_) 0
    rw [a6] at c5 c6
    rw [a7, a2] at c7
    rw [a2] at c8
    exact hQ h' t' vs' tw (Or.inl ⟨hle, rfl, hi⟩) c1 ((a8 tw).tr c2 (fun _ _ h => h)) c3 c4 c5 (by omega) c7 c8
  · refine v_icmp_le (t := 53) (q := 49) dX7_absorb_46 (by decide) rfl (fun hc => absurd hc (nI_ge (by omega) (by omega))) (fun _ => ?_)
    refine v_iconst (q := 50) (v := 1) dX7_absorb_49 rfl (by decide) ?_
    refine v_goto (q := 54) dX7_absorb_50 (by decide) ?_
    refine v_ist3 (q := 55) dX7_absorb_54 rfl (by decide) rfl ?_
    refine v_ild3 (q := 56) dX7_absorb_55 rfl ?_
    refine v_if_eq (t := 66) (q := 59) dX7_absorb_56 (by decide) rfl (fun hc => absurd hc (by decide)) (fun _ => ?_)
    refine v_ald0 (q := 60) dX7_absorb_59 rfl rfl ?_
    refine v_getR (q := 63) dX7_absorb_60 rfl gf_X7_55_6 (by assumption) (by assumption) ?_
    refine v_goto (q := 70) dX7_absorb_63 (by decide) ?_
    refine v_ast4 (q := 72) dX7_absorb_70 rfl (by decide) rfl rfl ?_
    refine v_ald0 (q := 73) dX7_absorb_72 rfl rfl ?_
    refine v_getI (q := 76) dX7_absorb_73 rfl gf_X7_52_6 (by assumption) ?_
    refine v_ald1 (q := 77) dX7_absorb_76 rfl rfl ?_
    refine v_getI (q := 80) dX7_absorb_77 rfl gf_X7_52_6 (by assumption) ?_
    rw [zw, zo]
    refine v_callS (q := 83) (d' := d + 2) (av := [.int (nI vs.length), .int (nI us.length)]) dX7_absorb_80 rfl ok_J9_min_7cf53 ml_X7_24 st_J9_min_7cf53 (by omega) rfl rfl (Nat.le_of_ble_eq_true rfl) ?_
    refine k_minI ?_
    rw [if_neg (nI_nlt (by omega) (by omega))]
    refine v_ist5 (q := 85) dX7_absorb_83 rfl (by decide) rfl ?_
    refine v_ild3 (q := 86) dX7_absorb_85 rfl ?_
    refine v_if_eq (t := 105) (q := 89) dX7_absorb_86 (by decide) rfl (fun hc => absurd hc (by decide)) (fun _ => ?_)
    refine v_ald0 (q := 90) dX7_absorb_89 rfl rfl ?_
    refine v_ald1 (q := 91) dX7_absorb_90 rfl rfl ?_
    refine v_getR (q := 94) dX7_absorb_91 rfl gf_X7_55_6 (by assumption) (by assumption) ?_
    refine v_putP (q := 97) (x := some to) dX7_absorb_94 rfl pf_X7_55_6 kw rfl rfl ?_
    generalize hh2 : sFP h1 40 w (some to) = h2
    have b1 : hK h2 = hK h := by rw [← hh2, hK_sFP, a1]
    have b2 : hN h2 = hN h := by rw [← hh2, hN_sFP, a2]
    have b3 : fI h2 = fI h1 := by rw [← hh2, fI_sFP]
    have b4 : aL h2 = aL h := by rw [← hh2, aL_sFP, a4]
    have b5 : fP h2 40 w = some to := by rw [← hh2, fP_sFP, if_pos ⟨rfl, rfl⟩]
    have b6 : hz h2 = hz h := by rw [← hh2, hz_sFP, a6]
    have b7 : hs h2 = hs h := by rw [← hh2, hs_sFP, a7]
    have b8 : Smo (fun a => a = w ∨ a = to) h h2 := by rw [← hh2]; exact (a8 to).andFP (Or.inl (Or.inl rfl))
    have b9 : Wf h2 := Wf_same b6 b1 wf
    have b10 : OnlyV w h1 h2 := ⟨fun f _ => by rw [b3], fun f => by rw [← hh2, fL_sFP], fun f hf => by rw [← hh2, fP_sFP, if_neg (fun e => hf e.1)]⟩
    have b11 : ∀ f a, a ≠ w → fP h2 f a = fP h1 f a := fun f a ha => by rw [← hh2, fP_sFP, if_neg (fun e => ha e.2)]
    clear hh2
    have kw2 : hK h2 w = 7 := by rw [b1]; exact hk
    have ko2 : hK h2 o = 7 := by rw [b1]; exact ho
    have zo2 : fI h2 41 o = nI us.length := by rw [b3]; exact zo
    refine v_ald0 (q := 98) dX7_absorb_97 rfl rfl ?_
    refine v_ald1 (q := 99) dX7_absorb_98 rfl rfl ?_
    refine v_getI (q := 102) dX7_absorb_99 rfl gf_X7_52_6 (by assumption) ?_
    rw [zo2]
    refine v_putI (q := 105) dX7_absorb_102 rfl pf_X7_52_6 (by assumption) rfl rfl ?_
    refine v_iconst (q := 106) (v := 0) dX7_absorb_105 rfl (by decide) ?_
    refine v_ist6 (q := 108) dX7_absorb_106 rfl (by decide) rfl ?_
    generalize hh3 : sFI h2 41 w (nI us.length) = h3
    have d1 : hK h3 = hK h := by rw [← hh3, hK_sFI, b1]
    have d2 : hN h3 = hN h := by rw [← hh3, hN_sFI, b2]
    have d3 : fI h3 41 w = nI us.length := by rw [← hh3, fI_sFI, if_pos ⟨rfl, rfl⟩]
    have d4 : aL h3 = aL h := by rw [← hh3, aL_sFI, b4]
    have d5 : fP h3 40 w = some to := by rw [← hh3, fP_sFI, b5]
    have d6 : hz h3 = hz h := by rw [← hh3, hz_sFI, b6]
    have d7 : hs h3 = hs h := by rw [← hh3, hs_sFI, b7]
    have d8 : Smo (fun a => a = w ∨ a = to) h h3 := by rw [← hh3]; exact b8.andFI (Or.inl (Or.inl rfl))
    have d9 : Wf h3 := Wf_same d6 d1 wf
    have d10 : OnlyV w h1 h3 := by
      rw [← hh3]
      exact ⟨fun f hf => by rw [fI_sFI, if_neg (fun e => hf e.1)]; exact b10.1 f hf, fun f => by rw [fL_sFI]; exact b10.2.1 f, fun f hf => by rw [fP_sFI]; exact b10.2.2 f hf⟩
    clear hh3
    have kw3 : hK h3 w = 7 := by rw [d1]; exact hk
    have rv3 : Vrow h3 tw vs := ⟨by rw [d1]; exact hv.1, by rw [d2]; exact hv.2.1, by rw [d2]; exact hv.2.2.1, by rw [d2]; exact hv.2.2.2.1, by rw [d4]; exact hv.2.2.2.2⟩
    have ru3 : Vrow h3 to us := ⟨by rw [d1]; exact hu.1, by rw [d2]; exact hu.2.1, by rw [d2]; exact hu.2.2.1, by rw [d2]; exact hu.2.2.2.1, by rw [d4]; exact hu.2.2.2.2⟩
    refine ab_loop (h := h3) (t0 := to) hh htt (Ne.symm n1) rv3.1 rv3.2.2.2.2 rv3.2.1 rv3.2.2.2.1 (by rw [d6]; exact wtw) d9 vs.length 0 h3 to us (by omega) (by omega) ⟨kw3, d3, d5, hul, Or.inr ⟨to, rfl, ru3⟩⟩ s2 (by omega) (Smo.rf h3) d9 ⟨fun _ _ => rfl, fun _ => rfl, fun _ _ => rfl⟩ (Or.inl rfl) (by omega) (by omega) (by omega) (fun vs' hi h' t' c1 c2 c3 c4 c5 c6 c7 c8 => ?_) 1
    rw [d6] at c5 c6
    rw [d7, d2] at c7
    rw [d2] at c8
    have ov : OnlyV w h1 h' := ⟨fun f hf => (c4.1 f hf).trans (d10.1 f hf), fun f => (c4.2.1 f).trans (d10.2.1 f), fun f hf => (c4.2.2 f hf).trans (d10.2.2 f hf)⟩
    exact hQ h' t' vs' to (Or.inr ⟨by omega, rfl, hi⟩) c1 (d8.tr c2 (fun _ _ h => h)) c3 ov c5 (by omega) c7 c8
end L31
