/-! 72: Windowed: rise, of the whole stage -/
section L72
variable {g : Gl} {d : Nat} {h : Hp} {Q : Option Value → Hp → Prop} {ow : Nat → Nat} {s p lg A q1 q2 how ea k : Nat} {ses : Bool} {sp st lt mk to : Int32} {rows : List Rw} {ln : Nat → List Wd}
theorem HpL.size {T q b sl ce : Nat} {D : List Int64} (x : HpL h ow T q D sl ce b) : hK h q = 3 ∧ fI h 30 q = nI D.length := by
  obtain ⟨t, x1, _⟩ := x
  exact ⟨x1.1.1, x1.1.2.2.2.1⟩
theorem k_rise {dr US UZ : Nat} (hW : WS g h ow s p lg A q1 q2 ses how ea sp st lt mk dr ln rows US UZ) (hB : BdS s how ea sp st lt mk) (hmt : mk.toInt ≤ to.toInt) (ht : to.toInt ≤ 200000) (hv : sm vN ln < 100000) (hr : ptR mk ln rows ≤ 192010)
    (hQ : ∀ h' ow' US' UZ' ln' rows', (ln', rows') = rsS s how mk to (ln, rows) → WS g h' ow' s p lg A q1 q2 ses how ea sp st lt to dr ln' rows' US' UZ' → Fr ow ow' (SS s) h h' → PFl [1, 24, 25, 26] p h h' → hs h' + US + lgS rows.length ≤ hs h + US' + lgS rows'.length → hz h' + UZ + lgZ rows.length ≤ hz h + UZ' + lgZ rows'.length → ptR to ln' rows' ≤ ptR mk ln rows → sm vN ln' = sm vN ln → (∃ more, rows' = rows ++ more) → Q none h') :
    Call g mX8_rise (d + 9) [.ref p, .int to] h Q := by
  obtain ⟨ac, D1, D2, s1, c1, b1, s2, c2, b2, W, ⟨f1, f13, f14, f15, f21, f22, f23⟩, ⟨f24, f25, f26⟩, hI, hD, hb1, hb2, eS, eZ⟩ := hW
  obtain ⟨B1, B2, B3, B4, B5, B6, B7, B8, B9, B10, B11, B12⟩ := hB
  have hst0 : 0 ≤ styI ses sp lt := by unfold styI; split <;> omega
  have hst1 : styI ses sp lt ≤ 200000 := by unfold styI; split <;> omega
  have k1 : hK h p = 8 := W.1.1
  obtain ⟨W1, fr1, p1⟩ := W.set (f := 1) (u := to) B1 (by decide) (by decide)
  obtain ⟨U, Rst, e1, hpw, hU, hRs, hm⟩ := cut_sl (D := D1) (q := fun a => decide (a ≤ to)) (fun a b hab hb => by
    have hb := of_decide_eq_true hb
    rw [fa_le] at hb
    refine decide_eq_true ?_
    rw [fa_le]
    omega) hD.1 (fun x hx => by
    obtain ⟨k, b, e, a1, a2, a3, _⟩ := (hD.2.2.1 x hx).sl
    exact ⟨k, b, e, a1, a2, a3⟩)
  have hU' : ∀ x ∈ U, cEnd x ≤ to := fun x hx => of_decide_eq_true (hU x hx)
  have hRs' : ∀ x ∈ Rst, ¬ cEnd x ≤ to := fun x hx => of_decide_eq_false (hRs x hx)
  obtain ⟨hP, hcnt, hfil⟩ := rise_begin hI hD B4 hmt e1 hpw hU' hRs' hm
  have hlen : D1.length = (U ++ Rst).length := by
    rw [← e1]
    exact (srt_perm D1).length_eq.symm
  have W1' : WG g (sFI h 1 p to) ow s p lg A q1 q2 how (if ses then 1 else 0) ln ac rows (U ++ Rst) D2 s1 c1 b1 s2 c2 b2 := by
    obtain ⟨a1, a2, a3, a4, a5, a6, a7⟩ := W1
    exact ⟨a1, a2, a3, a4, a5.perm (by rw [← e1]; exact (srt_perm D1).symm), a6, a7⟩
  have hsz := W1.2.2.2.2.1.size
  have g18 : fP (sFI h 1 p to) 18 p = some q1 := W1.1.2.2.2.2.2.1
  have kp1 : hK (sFI h 1 p to) p = 8 := k1
  have kq1 : hK (sFI h 1 p to) q1 = 3 := hsz.1
  have hsl : ∀ x ∈ U, isSl x := fun x hx => by
    obtain ⟨k, b, e, a1, a2, a3, _⟩ := (hD.2.2.1 x ((hm x).mpr (Or.inl hx))).sl
    exact ⟨k, b, e, a1, a2, a3⟩
  have efold : U.foldl (gvS s how) (ln, rows) = rsS s how mk to (ln, rows) := by
    rw [gv_filter (allS ln) U (ln, rows) rfl hsl, hfil]
    rfl
  unfold ptR at hr
  have z1 : hs (sFI h 1 p to) = hs h := rfl
  have z2 : hz (sFI h 1 p to) = hz h := rfl
  have z0 : fI (sFI h 1 p to) 1 p = to := fi_eq _ _ _ _
  refine Call.of [.ref p, .int to, zz, zz, zz, zz] (by decide) (Nat.le_of_ble_eq_true rfl) rfl ?_
  refine v_ald0 (q := 1) dX8_rise_0 rfl rfl ?_
  refine v_ild1 (q := 2) dX8_rise_1 rfl ?_
  refine v_putI (q := 5) dX8_rise_2 rfl pf_X8_63_7 (by assumption) rfl rfl ?_
  generalize sFI h 1 p to = h1 at *
  refine v_ald0 (q := 6) dX8_rise_5 rfl rfl ?_
  refine v_getR (q := 9) dX8_rise_6 rfl gf_X8_22_7 (by assumption) (by assumption) ?_
  refine v_getI (q := 12) dX8_rise_9 rfl gf_X8_66_2 (by assumption) ?_
  rw [hsz.2, hlen]
  refine v_ist2 (q := 13) dX8_rise_12 rfl (by decide) rfl ?_
  rw [hlen, List.length_append] at hb2
  refine rs_loop1 (d := d) (ac := ac) (mk := mk) (sty := styI ses sp lt) (ses := ses) (sp := sp) B1 B2 B4 hst0 hRs' U h1 ow ln rows D2 s2 c2 b2 zz zz zz W1' hP hpw hU' ((p1.2.1 26 (by decide)).trans f26) (by omega) (by omega) (by omega) (by rw [List.length_append]; omega) (fun h2 ow2 ln2 rows2 D2' s2' c2' b2' n2 u3 u4 u5 e2 W2 P2 x2 f2 p2 l2 q2' bb2 y1 y2 m2 => ?_)
  rw [efold] at e2
  obtain ⟨hC2, h202, hL2, hLog2, hD12, hD22, gd2⟩ := W2
  have W2 : WG g h2 ow2 s p lg A q1 q2 how (if ses then 1 else 0) ln2 ac rows2 Rst D2' s1 c1 b1 s2' c2' b2' := ⟨hC2, h202, hL2, hLog2, hD12, hD22, gd2⟩
  have kp2 : hK h2 p = 8 := hC2.1
  have g19 : fP h2 19 p = some q2 := hC2.2.2.2.2.2.2.1
  have hsz2 := hD22.size
  have kq2 : hK h2 q2 = 3 := hsz2.1
  have pf2 : PFl [1, 26] p h h2 := (p1.mono (fun f hf => by simp at hf; simp [hf])).tr (p2.mono (fun f hf => by simp at hf; simp [hf])) (fun _ h => h) (fun _ h => h)
  have g15 : fI h2 15 p = (if ses then 1 else 0) := (pf2.2.1 15 (by decide)).trans f15
  have g21 : fI h2 21 p = lt := (pf2.2.1 21 (by decide)).trans f21
  have g13 : fI h2 13 p = sp := (pf2.2.1 13 (by decide)).trans f13
  have evN : sm vN ln2 = sm vN ln := by
    unfold sm
    exact fb_sm_cong (fun j hj => (ext_cnt (x2 j hj) 0 mk).1)
  have ecD : sm (cD to) ln2 = sm (cD to) ln := by
    unfold sm
    exact fb_sm_cong (fun j hj => (ext_cnt (x2 j hj) 0 to).2.1)
  have rest : ∀ stI : Int32, stI.toInt = styI ses sp lt → V g mX8_rise (d + 9) 96 [.ref p, .int to, .int (nI n2), u3, u4, u5] [.int stI] h2 Q := fun stI hst => by
    have hsl2 : ∀ x ∈ D2', isSl x := fun x hx => by
      obtain ⟨k, b, e, a1, a2, a3, _⟩ := (P2.2.2.2.1 x hx).sl
      exact ⟨k, b, e, a1, a2, a3⟩
    obtain ⟨U2, R2, e3, hpw2, hU2, hR2, hm2⟩ := cut_sl (D := D2') (q := fun a => decide (a.toInt + styI ses sp lt ≤ to.toInt)) (fun a b hab hb => by
      have hb := of_decide_eq_true hb
      refine decide_eq_true ?_
      omega) P2.2.2.1 hsl2
    have eadd : ∀ x ∈ D2', (cEnd x + stI).toInt = (cEnd x).toInt + styI ses sp lt := fun x hx => by
      obtain ⟨k, b, e, a1, a2, a3, a4, a5⟩ := (P2.2.2.2.1 x hx).sl
      rw [i32_add (by rw [a4, hst]; have := a2.2.2.1; omega) (by rw [a4, hst]; have := a2.2.2.2; omega), hst]
    have hU2' : ∀ x ∈ U2, cEnd x + stI ≤ to := fun x hx => by
      rw [fa_le, eadd x ((hm2 x).mpr (Or.inl hx))]
      exact of_decide_eq_true (hU2 x hx)
    have hR2' : ∀ x ∈ R2, ¬ cEnd x + stI ≤ to := fun x hx => by
      rw [fa_le, eadd x ((hm2 x).mpr (Or.inr hx))]
      exact of_decide_eq_false (hR2 x hx)
    obtain ⟨rI', rD, rT, rH⟩ := rise_end P2 hD x2 B4 hst0 hst1 hmt hst hRs' hU' hpw hm hpw2 hU2' hR2' hm2
    have hlen2 : D2'.length = (U2 ++ R2).length := by
      rw [← e3]
      exact (srt_perm D2').length_eq.symm
    have hb22 : D2'.length ≤ b2' := by
      obtain ⟨t, _, _, _, _, _, _, a, _⟩ := hD22
      exact a
    have W2' : WG g h2 ow2 s p lg A q1 q2 how (if ses then 1 else 0) ln2 ac rows2 Rst (U2 ++ R2) s1 c1 b1 s2' c2' b2' := ⟨hC2, h202, hL2, hLog2, hD12, hD22.perm (by rw [← e3]; exact (srt_perm D2').symm), gd2⟩
    refine v_ist2 (q := 97) dX8_rise_96 rfl (by decide) rfl ?_
    refine v_ald0 (q := 98) dX8_rise_97 rfl rfl ?_
    refine v_getR (q := 101) dX8_rise_98 rfl gf_X8_26_7 (by assumption) (by assumption) ?_
    refine v_getI (q := 104) dX8_rise_101 rfl gf_X8_66_2 (by assumption) ?_
    rw [hsz2.2, hlen2]
    refine v_ist3 (q := 105) dX8_rise_104 rfl (by decide) rfl ?_
    refine rs_loop2 (d := d) (ow := ow2) (mk := mk) (ses := ses) (sp := sp) B1 B4 P2.1 (by rw [evN]; omega) hR2' U2 h2 s2' c2' b2' u4 u5 W2' (fun x hx => P2.2.2.2.1 x ((hm2 x).mpr (Or.inl hx))) hpw2 hU2' (by omega) (fun h3 W3 f3 p3 l24 l25 z3 z4 => ?_)
    have pf3 : PFl [1, 24, 25, 26] p h h3 := (pf2.mono (fun f hf => by simp at hf; rcases hf with e | e <;> simp [e])).tr (p3.mono (fun f hf => by simp at hf; rcases hf with e | e <;> simp [e])) (fun _ h => h) (fun _ h => h)
    refine hQ h3 ow2 (aS ac + s1 + s2') (aZ ac + c1 + c2') ln2 rows2 e2 ⟨ac, Rst, R2, s1, c1, b1, s2', c2', b2', W3, ⟨?_, (pf3.2.1 13 (by decide)).trans f13, (pf3.2.1 14 (by decide)).trans f14, (pf3.2.1 15 (by decide)).trans f15, (pf3.2.1 21 (by decide)).trans f21, (pf3.2.1 22 (by decide)).trans f22, (pf3.2.1 23 (by decide)).trans f23⟩, ⟨?_, ?_, ?_⟩, rI', rD, by rw [evN]; exact hb1, by rw [evN]; omega, rfl, rfl⟩ ((fr1.mono (fun t e => by rw [e]; unfold SS tP; omega)).tr (f2.tr f3)) pf3 (by omega) (by omega) ?_ evN m2
    · rw [p3.2.1 1 (by decide), p2.2.1 1 (by decide)]
      assumption
    · rw [l24, pf2.2.1 24 (by decide), f24, nI_sub (by omega)]
      refine congrArg nI ?_
      omega
    · rw [l25, pf2.2.1 25 (by decide), f25, nI_sub (by omega)]
      refine congrArg nI ?_
      omega
    · rw [p3.2.1 26 (by decide)]
      exact l2
    · unfold ptR
      omega
  refine v_ald0 (q := 72) dX8_rise_71 rfl rfl ?_
  refine v_getI (q := 75) dX8_rise_72 rfl gf_X8_33_7 (by assumption) ?_
  rw [g15]
  cases ses with
  | true =>
    refine v_if_eq (t := 92) (q := 78) dX8_rise_75 (by decide) rfl (fun hc => absurd hc (by decide)) (fun _ => ?_)
    refine v_ald0 (q := 79) dX8_rise_78 rfl rfl ?_
    refine v_getI (q := 82) dX8_rise_79 rfl gf_X8_94_7 (by assumption) ?_
    refine v_ald0 (q := 83) dX8_rise_82 rfl rfl ?_
    refine v_getI (q := 86) dX8_rise_83 rfl gf_X8_37_7 (by assumption) ?_
    refine v_iadd (q := 87) dX8_rise_86 rfl ?_
    refine v_iconst (q := 88) (v := 1) dX8_rise_87 rfl (by decide) ?_
    refine v_isub (q := 89) dX8_rise_88 rfl ?_
    refine v_goto (q := 96) dX8_rise_89 (by decide) ?_
    rw [g21, g13]
    refine rest _ ?_
    have e1 : (lt + sp).toInt = lt.toInt + sp.toInt := i32_add (by omega) (by omega)
    rw [Int32.toInt_sub, e1, i32_1]
    unfold styI
    rw [if_pos rfl]
    rw [Int.bmod_eq_of_le (by omega) (by omega)]
    omega
  | false =>
    refine v_if_eq (t := 92) (q := 78) dX8_rise_75 (by decide) rfl (fun _ => ?_) (fun hc => absurd rfl hc)
    refine v_ald0 (q := 93) dX8_rise_92 rfl rfl ?_
    refine v_getI (q := 96) dX8_rise_93 rfl gf_X8_94_7 (by assumption) ?_
    rw [g21]
    refine rest _ ?_
    unfold styI
    rw [if_neg (by decide)]
    omega
end L72
