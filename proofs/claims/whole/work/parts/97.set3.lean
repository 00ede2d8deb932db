/-! 97: WindowMill: settleMarks -/
/-- what settleMarks leaves -/
def RX (X X' : Sg) : Prop := xT X' = xT X ∧ xP X' = xP X ∧ xI X' = xI X ∧ (∃ more, xR X' = xR X ++ more) ∧ SG X X'
theorem RX.rf (X : Sg) : RX X X := ⟨rfl, rfl, rfl, ⟨[], (List.append_nil _).symm⟩, SG.rf X⟩
theorem RX.tr {X Y Z : Sg} (a : RX X Y) (b : RX Y Z) : RX X Z := by
  obtain ⟨a1, a2, a3, ⟨m, a4⟩, a5⟩ := a
  obtain ⟨b1, b2, b3, ⟨n, b4⟩, b5⟩ := b
  exact ⟨b1.trans a1, b2.trans a2, b3.trans a3, ⟨m ++ n, by rw [b4, a4, List.append_assoc]⟩, a5.tr b5⟩
section L97
variable {g : Gl} {d : Nat} {c lg SA ST WY : Nat} {po sp : Nat → Nat}
theorem wake_eq {X : Sg} {s : Nat} (hG : GO X) (hs : s < xM X) : wake X s = wkL X s (8 + s) ∧ leastM X s = lst X s (8 + s) := by
  have h16 := hG.1
  have h := wkL_more X s (8 + s) (fun f hf => Bool.eq_false_iff.mpr (fun q => by
    have := (hG.2.1 s hs f q).1
    omega)) (16 - s)
  have e : wake X s = wkL X s (8 + s) := by
    rw [← h, show 8 + s + (16 - s) = 24 by omega]
    rfl
  refine ⟨e, ?_⟩
  unfold leastM lst
  rw [e]
theorem BI.set2 {X : Sg} {s : Nat} (u : Int32) (h : BI X) (hs : s < xM X) : BI (xSet X s (sgI (xS X s) 2 u) (xR X)) ∧ tot camS (xSet X s (sgI (xS X s) 2 u) (xR X)) = tot camS X :=
  h.set hs rfl rfl rfl (Nat.le_refl _) rfl (fun _ => ⟨rfl, rfl⟩)
theorem se_out : ∀ (t s : Nat) (h : Hp) (ow us uz : Nat → Nat) (X : Sg) (Q : Option Value → Hp → Prop), s + t = xM X → MV g h ow c lg SA ST WY po sp X us uz → GO X → BI X → tot camS X ≤ 12000 →
    (∀ (h' : Hp) (ow' us' uz' : Nat → Nat) (X' : Sg), X' = (List.range' s t).foldl settle1 X → MV g h' ow' c lg SA ST WY po sp X' us' uz' → RX X X' → BI X' → tot camS X' = tot camS X → Fr ow ow' CS h h' → Led h us uz X h' us' uz' X' → Q none h') →
    V g mX9_settleMarks (d + 11) 2 [.ref c, .int (nI s), zz, zz, zz] [] h Q := by
  intro t
  induction t with
  | zero =>
    intro s h ow us uz X Q hst hM hG hB hC hQ
    have a1 : hK h c = 9 := hM.1.1
    have a7 : fI h 46 c = nI (xM X) := hM.1.2.2.2.2.2.2.1
    have : s = xM X := by omega
    subst this
    refine v_ild1 (q := 3) dX9_settleMarks_2 rfl ?_
    refine v_ald0 (q := 4) dX9_settleMarks_3 rfl rfl ?_
    refine v_getI (q := 7) dX9_settleMarks_4 rfl gf_X9_37_8 (by assumption) ?_
    rw [a7]
    refine v_icmp_ge (t := 111) (q := 10) dX9_settleMarks_7 (by decide) rfl (fun _ => ?_) (fun hc => absurd (Int32.le_refl _) hc)
    refine v_vret dX9_settleMarks_111 rfl ?_
    exact hQ h ow us uz X rfl hM (RX.rf X) hB rfl (Fr.rf h) (Led.rf h us uz X)
  | succ t ih =>
    intro s h ow us uz X Q hst hM hG hB hC hQ
    have a1 : hK h c = 9 := hM.1.1
    have a4 : fP h 43 c = some ST := hM.1.2.2.2.1
    have a7 : fI h 46 c = nI (xM X) := hM.1.2.2.2.2.2.2.1
    have b4 : hK h ST = 26 := hM.2.1.2.2.2.1
    have b5 : hN h ST = 16 := hM.2.1.2.2.2.2.1
    have h16 : xM X ≤ 16 := hM.2.2.2.2.1
    have hsm : s < xM X := by omega
    have hS := hM.st hsm
    have hp := ((hM.2.2.2.1 s (by omega)).1 hsm).1
    have kk := hS.tag.2
    rw [List.range'_succ, List.foldl_cons] at hQ
    have rest : ∀ (h1 : Hp) (ow1 us1 uz1 : Nat → Nat) (X1 : Sg) (v2 v3 v4 : Value), X1 = settle1 X s → MV g h1 ow1 c lg SA ST WY po sp X1 us1 uz1 → RX X X1 → BI X1 → tot camS X1 = tot camS X → Fr ow ow1 CS h h1 → Led h us uz X h1 us1 uz1 X1 → V g mX9_settleMarks (d + 11) 105 [.ref c, .int (nI s), v2, v3, v4] [] h1 Q := fun h1 ow1 us1 uz1 X1 v2 v3 v4 e1 hM1 hX1 hB1 hC1 hF1 hL1 => by
      refine v_inc1 (q := 108) dX9_settleMarks_105 rfl (by decide) rfl rfl ?_
      rw [inc1]
      refine v_goto (q := 2) dX9_settleMarks_108 (by decide) ?_
      refine v_fg (FG.k (FG.k (FG.z (FG.z (FG.z FG.nil))))) ?_
      refine ih (s + 1) h1 ow1 us1 uz1 X1 Q (by rw [hX1.2.2.2.2.1]; omega) hM1 (hG.same hX1.2.2.2.2) hB1 (by omega) (fun h2 ow2 us2 uz2 X2 e2 hM2 hX2 hB2 hC2 hF2 hL2 => ?_)
      rw [e1] at e2
      exact hQ h2 ow2 us2 uz2 X2 e2 hM2 (hX1.tr hX2) hB2 (by omega) (hF1.tr hF2) (hL1.tr hL2 hX1.2.2.2.2.1)
    refine v_ild1 (q := 3) dX9_settleMarks_2 rfl ?_
    refine v_ald0 (q := 4) dX9_settleMarks_3 rfl rfl ?_
    refine v_getI (q := 7) dX9_settleMarks_4 rfl gf_X9_37_8 (by assumption) ?_
    rw [a7]
    refine v_icmp_ge (t := 111) (q := 10) dX9_settleMarks_7 (by decide) rfl (fun hc => absurd hc (nI_ge hsm (by omega))) (fun _ => ?_)
    refine v_ald0 (q := 11) dX9_settleMarks_10 rfl rfl ?_
    refine v_getR (q := 14) dX9_settleMarks_11 rfl gf_X9_17_8 (by assumption) (by assumption) ?_
    refine v_ild1 (q := 15) dX9_settleMarks_14 rfl ?_
    refine v_aald (q := 16) _ dX9_settleMarks_15 rfl ⟨b4, by decide, by decide⟩ rfl (by rw [b5]; omega) (by rw [b5]; decide) ?_
    rw [hp]
    refine v_ast2 (q := 17) dX9_settleMarks_16 rfl (by decide) rfl rfl ?_
    refine v_ald2 (q := 18) dX9_settleMarks_17 rfl rfl ?_
    refine v_iconst (q := 19) (v := 1) dX9_settleMarks_18 rfl (by decide) ?_
    refine sm19 kk ?_
    obtain ⟨hM1, hF1⟩ := hM.set2 (u := 1) hsm
    have z1 : hs (sFI h 2 (sp s) 1) = hs h := rfl
    have z2 : hz (sFI h 2 (sp s) 1) = hz h := rfl
    generalize sFI h 2 (sp s) 1 = h1 at *
    refine v_ldc (q := 24) dX9_settleMarks_22 rfl kc_X9_113 ?_
    refine v_ist3 (q := 25) dX9_settleMarks_24 rfl (by decide) rfl ?_
    refine v_iconst (q := 26) (v := 0) dX9_settleMarks_25 rfl (by decide) ?_
    refine v_ist4 (q := 28) dX9_settleMarks_26 rfl (by decide) rfl ?_
    refine se_in (d := d) (X := X) hG hsm (8 + s) 0 h1 Q (Nat.zero_add _) hM1 (fun h2 hM2 hF2 y1 y2 => ?_)
    have hF3 := hF1.tr hF2
    have hMs : s < xM (xSet X s (sgI (xS X s) 2 (idl X s (8 + s))) (xR X)) := hsm
    have hS2 := hM2.st hMs
    rw [xS_set] at hS2
    have kk2 := hS2.tag.2
    obtain ⟨ew, el⟩ := wake_eq hG hsm
    have sg : ∀ u : Int32, SGs (xS X s) (sgI (xS X s) 2 u) := fun u => ⟨rfl, rfl, rfl, rfl⟩
    have led : ∀ S : Stg, Led h us uz X h2 us uz (xSet X s S (xR X)) := fun S => by
      unfold Led
      show _ ≤ hs h + _ + lgS (xR X).length ∧ _ ≤ hz h + _ + lgZ (xR X).length
      omega
    refine v_ald2 (q := 86) dX9_settleMarks_85 rfl rfl ?_
    refine sm86 kk2 ?_
    rw [hS2.1.2.1]
    show V g mX9_settleMarks (d + 11) 89 _ [.int (idl X s (8 + s))] h2 Q
    by_cases hw : wkL X s (8 + s) = []
    · have ei : idl X s (8 + s) = 1 := if_pos hw
      rw [ei]
      refine v_if_ne (t := 105) (q := 92) dX9_settleMarks_89 (by decide) rfl (fun _ => ?_) (fun hc => absurd hc (by decide))
      rw [ei] at hM2
      refine rest h2 ow us uz _ _ _ _ ?_ hM2 ⟨rfl, rfl, rfl, ⟨[], (List.append_nil _).symm⟩, SG.set X s _ _ (sg 1)⟩ (hB.set2 1 hsm).1 (hB.set2 1 hsm).2 hF3 (led _)
      unfold settle1
      rw [ew, if_pos hw]
    · have ei : idl X s (8 + s) = 0 := if_neg hw
      rw [ei]
      refine v_if_ne (t := 105) (q := 92) dX9_settleMarks_89 (by decide) rfl (fun hc => absurd rfl hc) (fun _ => ?_)
      rw [ei] at hM2 hS2
      refine v_ild3 (q := 93) dX9_settleMarks_92 rfl ?_
      refine v_ald2 (q := 94) dX9_settleMarks_93 rfl rfl ?_
      refine sm94 kk2 ?_
      rw [hS2.1.1]
      show V g mX9_settleMarks (d + 11) 97 _ [.int (gI (xS X s) 1), .int (lst X s (8 + s))] h2 Q
      by_cases hle : lst X s (8 + s) ≤ gI (xS X s) 1
      · refine v_icmp_le (t := 105) (q := 100) dX9_settleMarks_97 (by decide) rfl (fun _ => ?_) (fun hc => absurd hle hc)
        refine rest h2 ow us uz _ _ _ _ ?_ hM2 ⟨rfl, rfl, rfl, ⟨[], (List.append_nil _).symm⟩, SG.set X s _ _ (sg 0)⟩ (hB.set2 0 hsm).1 (hB.set2 0 hsm).2 hF3 (led _)
        unfold settle1
        rw [ew, if_neg hw, el, if_neg (fun q => absurd hle (Int32.not_le.mpr q))]
      · refine v_icmp_le (t := 105) (q := 100) dX9_settleMarks_97 (by decide) rfl (fun hc => absurd hc hle) (fun _ => ?_)
        have hlt : gI (xS X s) 1 < lst X s (8 + s) := Int32.not_le.mp hle
        have e1 : settle1 X s = riseG (xSet X s (sgI (xS X s) 2 0) (xR X)) s (lst X s (8 + s)) := by
          unfold settle1
          rw [ew, if_neg hw, el, if_pos hlt]
        have hl2 := lst_le X s (8 + s)
        generalize lst X s (8 + s) = l at *
        have hlt2 := hlt
        rw [fa_lt] at hlt2
        refine v_ald2 (q := 101) dX9_settleMarks_100 rfl rfl ?_
        refine v_ild3 (q := 102) dX9_settleMarks_101 rfl ?_
        have hB2 := hB.set2 0 hsm
        have hcs := tot_le camS X hsm
        have hps := tot_le potS X hsm
        have hes := hB.ent
        have hPE := hB.2
        rcases hS2.2 with ⟨w1, w2, hO, A, q1, q2, w3⟩ | ⟨w1, w2, w3, w4, w5, w6, w7, w8, w9, w10, w11⟩
        · have w0 : isW (xS X s) = true := w1
          have hb := hB.1 s hsm w0
          have ee : entS (xS X s) = sm vN (gL (xS X s)) := if_pos w0
          have ep : potS (xS X s) = sm cR (gL (xS X s)) + 2 * sm (cD (gI (xS X s) 1)) (gL (xS X s)) := if_pos w0
          refine v_callA (q := 105) (d' := d + 9) (av := [.int l]) (x := yRise) dX9_settleMarks_102 rfl ok_X8_rise CL7 ws_rise8 de_rise ⟨by decide, by decide, by decide +kernel⟩ w2 (by omega) rfl rfl (Nat.le_of_ble_eq_true rfl) ?_
          refine k_riseV (d := d) hS2 w1 (show (gI (xS X s) 1).toInt ≤ l.toInt by omega) hl2 (show sm vN (gL (xS X s)) < 100000 by omega) (show ptR (gI (xS X s) 1) (gL (xS X s)) (xR X) ≤ 192010 by unfold ptR; omega) (fun h3 ow3 US3 UZ3 ln3 rows3 e3 hV3 hL3 wf3 hF4 x1 x2 x3 x4 x5 => ?_)
          have hM3 := hM2.stage hMs hF4 wf3 hV3 hL3 x5
          rw [xSet_set] at hM3
          have hX3 : SGs (xS X s) (stR (sgI (xS X s) 2 0) l ln3) := ⟨rfl, rfl, rfl, rfl⟩
          have x3' : ptR l ln3 rows3 ≤ ptR (gI (xS X s) 1) (gL (xS X s)) (xR X) := x3
          have x4' : sm vN ln3 = sm vN (gL (xS X s)) := x4
          have ee3 : entS (stR (sgI (xS X s) 2 0) l ln3) = sm vN ln3 := if_pos w1
          have ep3 : potS (stR (sgI (xS X s) 2 0) l ln3) = sm cR ln3 + 2 * sm (cD l) ln3 := if_pos w1
          obtain ⟨hB3, hC3⟩ := hB.set (S := stR (sgI (xS X s) 2 0) l ln3) (rows' := rows3) hsm rfl (by rw [ee3, ee, x4']) rfl (by unfold ptR at x3'; omega) rfl (fun _ => ⟨rfl, rfl⟩)
          refine rest h3 ow3 _ _ _ _ _ _ ?_ hM3 ⟨rfl, rfl, rfl, x5, SG.set X s _ _ hX3⟩ hB3 hC3 (hF3.tr (hF4.mono (fun t ht => SS_CS (by omega) ht))) ?_
          · rw [e1]
            unfold riseG
            rw [xS_set, if_pos w1, xSet_set]
            show _ = xSet X s (stR (sgI (xS X s) 2 0) l _) _
            have e3' : (ln3, rows3) = rsS s (sHow (sgI (xS X s) 2 0)) (gI (sgI (xS X s) 2 0) 1) l (gL (sgI (xS X s) 2 0), xR (xSet X s (sgI (xS X s) 2 0) (xR X))) := e3
            rw [← e3']
          · refine (led (sgI (xS X s) 2 0)).tr (Led.stage (X := xSet X s (sgI (xS X s) 2 0) (xR X)) (S := stR (sgI (xS X s) 2 0) l ln3) (rows' := rows3) hMs x1 x2) rfl
        · have w0 : isW (xS X s) = false := w1
          refine v_callA (q := 105) (d' := d + 9) (av := [.int l]) (x := yRise) dX9_settleMarks_102 rfl ok_X4_rise CL4 ws_rise4 de_rise ⟨by decide, by decide, by decide +kernel⟩ w2 (by omega) rfl rfl (Nat.le_of_ble_eq_true rfl) ?_
          refine k_passRise w2 ?_
          obtain ⟨⟨c1, c2, c3, c4, c5⟩, _⟩ := id hS2
          have hV3 : StV g (sFI h2 1 (sp s) l) ow s (sp s) lg (sgI (sgI (xS X s) 2 0) 1 l) (xR X) (us s) (uz s) := stv_cell hS2 w1 rfl w1 (fi_eq _ _ _ _) ((fi_ne _ _ _ _ (by decide)).trans c2) ((fi_ne _ _ _ _ (by decide)).trans c3) ((fi_ne _ _ _ _ (by decide)).trans c4) ((fi_ne _ _ _ _ (by decide)).trans c5) ((fi_ne _ _ _ _ (by decide)).trans w4) ((fi_ne _ _ _ _ (by decide)).trans w5) ((fi_ne _ _ _ _ (by decide)).trans w6) ((fi_ne _ _ _ _ (by decide)).trans w7) ((fi_ne _ _ _ _ (by decide)).trans w8) w9
          have frP : Fr ow ow (fun t => t = tP s) h2 (sFI h2 1 (sp s) l) := Fr.of0 (P := fun a => a = sp s) (Smo_sFI rfl) (fun a _ e => by rw [e]; exact w3)
          have gd2 := hM2.2.2.2.2.2.2
          have hL3 : LogV (sFI h2 1 (sp s) l) ow lg (xR X) := hM2.2.2.2.2.2.1.fr gd2.1 frP (by unfold tL tP; omega)
          have wf3 : Wf (sFI h2 1 (sp s) l) := Wf_same rfl rfl gd2.1
          have z3 : hs (sFI h2 1 (sp s) l) = hs h2 := rfl
          have z4 : hz (sFI h2 1 (sp s) l) = hz h2 := rfl
          generalize sFI h2 1 (sp s) l = h3 at *
          have hM3 := hM2.stage (rows' := xR X) hMs (frP.mono (tP_SS s)) wf3 hV3 hL3 ⟨[], (List.append_nil _).symm⟩
          rw [xSet_set, upR_id, upR_id] at hM3
          have hX3 : SGs (xS X s) (sgI (sgI (xS X s) 2 0) 1 l) := ⟨rfl, rfl, rfl, rfl⟩
          have w' : isW (sgI (sgI (xS X s) 2 0) 1 l) = false := w0
          obtain ⟨hB3, hC3⟩ := hB.set (S := sgI (sgI (xS X s) 2 0) 1 l) (rows' := xR X) hsm rfl ((if_neg (by rw [w']; decide)).trans (if_neg (by rw [w0]; decide)).symm) ((if_neg (by rw [w']; decide)).trans (if_neg (by rw [w0]; decide)).symm) (Nat.le_of_eq (congrArg ((xR X).length + ·) ((if_neg (by rw [w']; decide)).trans (if_neg (by rw [w0]; decide)).symm))) rfl (fun q => by rw [w'] at q; cases q)
          refine rest h3 ow us uz _ _ _ _ ?_ hM3 ⟨rfl, rfl, rfl, ⟨[], (List.append_nil _).symm⟩, SG.set X s _ _ hX3⟩ hB3 hC3 (hF3.tr ((frP.mono (tP_SS s)).mono (fun t ht => SS_CS (by omega) ht))) ?_
          · rw [e1]
            unfold riseG
            rw [xS_set, if_neg (show ¬ isW (sgI (xS X s) 2 0) = true by rw [show isW (sgI (xS X s) 2 0) = false from w0]; decide), xSet_set]
            rfl
          · unfold Led
            show _ ≤ hs h + _ + lgS (xR X).length ∧ _ ≤ hz h + _ + lgZ (xR X).length
            omega
theorem k_settle {h : Hp} {ow us uz : Nat → Nat} {X : Sg} {Q : Option Value → Hp → Prop} (hM : MV g h ow c lg SA ST WY po sp X us uz) (hG : GO X) (hB : BI X) (hC : tot camS X ≤ 12000)
    (hQ : ∀ (h' : Hp) (ow' us' uz' : Nat → Nat) (X' : Sg), X' = settleS X → MV g h' ow' c lg SA ST WY po sp X' us' uz' → RX X X' → BI X' → tot camS X' = tot camS X → Fr ow ow' CS h h' → Led h us uz X h' us' uz' X' → Q none h') :
    Call g mX9_settleMarks (d + 11) [.ref c] h Q := by
  refine Call.of [.ref c, zz, zz, zz, zz] (by decide) (Nat.le_of_ble_eq_true rfl) rfl ?_
  refine v_iconst (q := 1) (v := 0) dX9_settleMarks_0 rfl (by decide) ?_
  refine v_ist1 (q := 2) dX9_settleMarks_1 rfl (by decide) rfl ?_
  refine se_out (d := d) (xM X) 0 h ow us uz X Q (Nat.zero_add _) hM hG hB hC (fun h' ow' us' uz' X' e a b c' d' e' f' => hQ h' ow' us' uz' X' ?_ a b c' d' e' f')
  rw [e]
  unfold settleS
  rw [List.range_eq_range']
end L97
