/-! 93: WindowMill: carry, the loop -/
def cyW (X : Sg) (n f s : Nat) : Nat := if gF (xS X s) f then (if isW (xS X s) then 1 else wz X n (8 + s)) else 0
def cyS (X : Sg) (n f s t : Nat) : Nat := ((List.range' s t).map (cyW X n f)).sum
theorem cyW_same {X X' : Sg} (a : SG X X') (n f s : Nat) : cyW X' n f s = cyW X n f s := by
  unfold cyW
  rw [(a.2 s).1, (a.2 s).w, wz_same a]
theorem cyS_same {X X' : Sg} (a : SG X X') (n f s t : Nat) : cyS X' n f s t = cyS X n f s t := by
  unfold cyS
  congr 1
  exact List.map_congr_left (fun x _ => cyW_same a n f x)
theorem cyS_succ (X : Sg) (n f s t : Nat) : cyS X n f s (t + 1) = cyW X n f s + cyS X n f (s + 1) t := by
  unfold cyS
  rw [List.range'_succ, List.map_cons, List.sum_cons]
def CyOK (g : Gl) (d c lg SA ST WY : Nat) (po sp : Nat → Nat) (n : Nat) : Prop :=
  ∀ (h : Hp) (ow us uz : Nat → Nat) (X : Sg) (f k : Nat) (m : Int32) (v : Int64) (Q : Option Value → Hp → Prop), MV g h ow c lg SA ST WY po sp X us uz → GO X → BI X → f < 8 + xM X → ((f < 8 ∧ 17 ≤ n) ∨ 24 ≤ n + f) → k < 1000 → 0 ≤ m.toInt → m.toInt ≤ 100000 → tot camS X + wz X n f ≤ 12000 →
    (∀ (h' : Hp) (ow' us' uz' : Nat → Nat) (X' : Sg), X' = carryS n f (nI k) m v X → MV g h' ow' c lg SA ST WY po sp X' us' uz' → KX X X' → BI X' → tot camS X' ≤ tot camS X + wz X n f → Fr ow ow' CS h h' → Led h us uz X h' us' uz' X' → Q none h') →
    Call g mX9_carry (d + n + 11) [.ref c, .int (nI f), .int (nI k), .int m, .long v] h Q
section L93
variable {g : Gl} {d : Nat} {c lg SA ST WY n f k : Nat} {po sp : Nat → Nat} {m : Int32} {v : Int64}
theorem cy_loop (IH : CyOK g d c lg SA ST WY po sp n) (hf24 : f < 24) (hfu : (f < 8 ∧ 17 ≤ n + 1) ∨ 24 ≤ n + 1 + f) (hk : k < 1000) (m0 : 0 ≤ m.toInt) (m1 : m.toInt ≤ 100000) :
    ∀ (t s : Nat) (h : Hp) (ow us uz : Nat → Nat) (X : Sg) (Q : Option Value → Hp → Prop), s + t = xM X → MV g h ow c lg SA ST WY po sp X us uz → GO X → BI X → tot camS X + cyS X n f s t ≤ 12000 →
      (∀ (h' : Hp) (ow' us' uz' : Nat → Nat) (X' : Sg), X' = (List.range' s t).foldl (cyF n f (nI k) m v) X → MV g h' ow' c lg SA ST WY po sp X' us' uz' → KX X X' → BI X' → tot camS X' ≤ tot camS X + cyS X n f s t → Fr ow ow' CS h h' → Led h us uz X h' us' uz' X' → Q none h') →
      V g mX9_carry (d + (n + 1) + 11) 12 [.ref c, .int (nI f), .int (nI k), .int m, .long v, zz, .int (nI s), zz, zz, zz] [] h Q := by
  intro t
  induction t with
  | zero =>
    intro s h ow us uz X Q hs hM hG hB hC hQ
    have a1 : hK h c = 9 := hM.1.1
    have a7 : fI h 46 c = nI (xM X) := hM.1.2.2.2.2.2.2.1
    have : s = xM X := by omega
    subst this
    refine v_ild6 (q := 14) dX9_carry_12 rfl ?_
    refine v_ald0 (q := 15) dX9_carry_14 rfl rfl ?_
    refine v_getI (q := 18) dX9_carry_15 rfl gf_X9_37_8 (by assumption) ?_
    rw [a7]
    refine v_icmp_ge (t := 136) (q := 21) dX9_carry_18 (by decide) rfl (fun _ => ?_) (fun hc => absurd (Int32.le_refl _) hc)
    refine v_vret dX9_carry_136 rfl ?_
    exact hQ h ow us uz X rfl hM (KX.rf X) hB (Nat.le_add_right _ _) (Fr.rf h) (Led.rf h us uz X)
  | succ t ih =>
    intro s h ow us uz X Q hs hM hG hB hC hQ
    have a1 : hK h c = 9 := hM.1.1
    have a4 : fP h 43 c = some ST := hM.1.2.2.2.1
    have a7 : fI h 46 c = nI (xM X) := hM.1.2.2.2.2.2.2.1
    have b4 : hK h ST = 26 := hM.2.1.2.2.2.1
    have b5 : hN h ST = 16 := hM.2.1.2.2.2.2.1
    have h16 : xM X ≤ 16 := hM.2.2.2.2.1
    have hsm : s < xM X := by omega
    have hS := hM.st hsm
    have hp := ((hM.2.2.2.1 s (by omega)).1 hsm).1
    have gd := hM.2.2.2.2.2.2
    have hLog := hM.2.2.2.2.2.1
    rw [cyS_succ] at hC hQ
    rw [List.range'_succ, List.foldl_cons] at hQ
    -- the rest of the loop, from a state that came of stage s
    have rest : ∀ (h1 : Hp) (ow1 us1 uz1 : Nat → Nat) (X1 : Sg) (v7 v8 v9 : Value), X1 = cyF n f (nI k) m v X s → MV g h1 ow1 c lg SA ST WY po sp X1 us1 uz1 → KX X X1 → BI X1 → tot camS X1 ≤ tot camS X + cyW X n f s → Fr ow ow1 CS h h1 → Led h us uz X h1 us1 uz1 X1 → V g mX9_carry (d + (n + 1) + 11) 130 [.ref c, .int (nI f), .int (nI k), .int m, .long v, zz, .int (nI s), v7, v8, v9] [] h1 Q := fun h1 ow1 us1 uz1 X1 v7 v8 v9 e1 hM1 hX1 hB1 hC1 hF1 hL1 => by
      refine v_inc6 (q := 133) dX9_carry_130 rfl (by decide) rfl rfl ?_
      rw [inc1]
      refine v_goto (q := 12) dX9_carry_133 (by decide) ?_
      refine v_fg (FG.k (FG.k (FG.k (FG.k (FG.k (FG.k (FG.k (FG.z (FG.z (FG.z FG.nil)))))))))) ?_
      have eS := cyS_same hX1.sg n f (s + 1) t
      refine ih (s + 1) h1 ow1 us1 uz1 X1 Q (by rw [hX1.1]; omega) hM1 (hG.same hX1.sg) hB1 (by rw [eS]; omega) (fun h2 ow2 us2 uz2 X2 e2 hM2 hX2 hB2 hC2 hF2 hL2 => ?_)
      rw [eS] at hC2
      rw [e1] at e2
      exact hQ h2 ow2 us2 uz2 X2 e2 hM2 (hX1.tr hX2) hB2 (by omega) (hF1.tr hF2) (hL1.tr hL2 hX1.1)
    refine v_ild6 (q := 14) dX9_carry_12 rfl ?_
    refine v_ald0 (q := 15) dX9_carry_14 rfl rfl ?_
    refine v_getI (q := 18) dX9_carry_15 rfl gf_X9_37_8 (by assumption) ?_
    rw [a7]
    refine v_icmp_ge (t := 136) (q := 21) dX9_carry_18 (by decide) rfl (fun hc => absurd hc (nI_ge hsm (by omega))) (fun _ => ?_)
    refine v_ald0 (q := 22) dX9_carry_21 rfl rfl ?_
    refine v_getR (q := 25) dX9_carry_22 rfl gf_X9_17_8 (by assumption) (by assumption) ?_
    refine v_ild6 (q := 27) dX9_carry_25 rfl ?_
    refine v_aald (q := 28) _ dX9_carry_27 rfl ⟨b4, by decide, by decide⟩ rfl (by rw [b5]; omega) (by rw [b5]; decide) ?_
    rw [hp]
    have after : V g mX9_carry (d + (n + 1) + 11) 32 [.ref c, .int (nI f), .int (nI k), .int m, .long v, zz, .int (nI s), zz, zz, zz] [.int (if gF (xS X s) f then 1 else 0)] h Q := by
      by_cases hf : gF (xS X s) f = true
      · rw [if_pos hf]
        refine v_if_ne (t := 38) (q := 35) dX9_carry_32 (by decide) rfl (fun _ => ?_) (fun hc => absurd hc (by decide))
        have hfs := (hG.2.1 s hsm f hf).1
        rcases hS.2 with ⟨w1, w2, hO, A, q1, q2, w3⟩ | ⟨w1, w2, _⟩
        · have eW : cyW X n f s = 1 := by
            unfold cyW
            rw [if_pos hf, if_pos w1]
          have hb := hB.1 s hsm w1
          have hcs := tot_le camS X hsm
          have hps := tot_le potS X hsm
          have hes := hB.ent
          have ee : entS (xS X s) = sm vN (gL (xS X s)) := if_pos w1
          have ep : potS (xS X s) = sm cR (gL (xS X s)) + 2 * sm (cD (gI (xS X s) 1)) (gL (xS X s)) := if_pos w1
          have hPE := hB.2
          refine v_ald0 (q := 39) dX9_carry_38 rfl rfl ?_
          refine v_getR (q := 42) dX9_carry_39 rfl gf_X9_17_8 (by assumption) (by assumption) ?_
          refine v_ild6 (q := 44) dX9_carry_42 rfl ?_
          refine v_aald (q := 45) _ dX9_carry_44 rfl ⟨b4, by decide, by decide⟩ rfl (by rw [b5]; omega) (by rw [b5]; decide) ?_
          rw [hp]
          refine v_ast9 (q := 47) dX9_carry_45 rfl (by decide) rfl rfl ?_
          refine v_ald9 (q := 49) dX9_carry_47 rfl rfl ?_
          refine v_inst (q := 52) dX9_carry_49 rfl CL7 cl_X9_41 w2 ?_
          refine v_if_eq (t := 74) (q := 55) dX9_carry_52 (by decide) rfl (fun hc => absurd hc (by decide)) (fun _ => ?_)
          refine v_ald9 (q := 57) dX9_carry_55 rfl rfl ?_
          refine v_cast (q := 60) dX9_carry_57 rfl CL7 cl_X9_41 w2 ?_
          refine v_ast7 (q := 62) dX9_carry_60 rfl (by decide) rfl rfl ?_
          refine v_ald7 (q := 64) dX9_carry_62 rfl rfl ?_
          refine v_ild2 (q := 65) dX9_carry_64 rfl ?_
          refine v_ild3 (q := 66) dX9_carry_65 rfl ?_
          refine v_lld4 (q := 68) dX9_carry_66 rfl ?_
          refine v_callV (q := 71) (d' := d + (n + 1) + 10) (av := [.int (nI k), .int m, .long v]) dX9_carry_68 rfl ok_X8_take CL7 ml_X9_206 im_X8_take se_X8_take (by assumption) (by omega) rfl rfl (Nat.le_of_ble_eq_true rfl) ?_
          refine k_takeV (d := d + (n + 1)) hS w1 hk m0 m1 (by omega) (by unfold ptR; omega) (by omega) (fun h1 ow1 US1 UZ1 ln1 rows1 dr1 e1 hV1 hL1 wf1 hF1 y1 y2 y3 y4 y5 => ?_)
          have eT : takeG X s (nI k) m v = xSet X s (stT (xS X s) ln1 dr1) rows1 := takeG_eq X s (nI k) m v ln1 rows1 dr1 (by rw [nI_clamp (by omega)]; exact e1)
          have hM1 := hM.stage hsm hF1 wf1 hV1 hL1 y5
          have hB4 := begs_len (sSt (xS X s)) m 4 (fstB (sSes (xS X s)) (sSp (xS X s)) (sSt (xS X s)) m)
          obtain ⟨B1, B2, B3, B4, B5, B6, B7, B8, B9, B10, B11, B12⟩ := hO.1
          have hdr : dr1 ≤ sDr (xS X s) + 4 := by
            have := tk_dr (sSes (xS X s)) s (sHow (xS X s)) (sEa (xS X s)) (sSp (xS X s)) (sSt (xS X s)) (gI (xS X s) 21) (gI (xS X s) 1) k m v (gL (xS X s), xR X, sDr (xS X s))
            rw [← e1] at this
            exact this
          obtain ⟨hB1, hC1⟩ := hB.take hsm w1 (by omega) y3 y4.1 (by omega) (fun q => by
            have := ses_begs (sp := sSp (xS X s)) (st := sSt (xS X s)) q B6 B7 m1 m0
            omega) hdr
          refine v_goto (q := 130) dX9_carry_71 (by decide) ?_
          refine rest h1 ow1 _ _ _ _ _ _ ?_ hM1 (KX.set X s _ _ (KS_stT _ _ _) y5) hB1 (by omega) (hF1.mono (fun t ht => SS_CS (by omega) ht)) (Led.stage hsm y1 y2)
          unfold cyF
          rw [if_pos hf, if_pos w1, eT]
        · refine v_ald0 (q := 39) dX9_carry_38 rfl rfl ?_
          refine v_getR (q := 42) dX9_carry_39 rfl gf_X9_17_8 (by assumption) (by assumption) ?_
          refine v_ild6 (q := 44) dX9_carry_42 rfl ?_
          refine v_aald (q := 45) _ dX9_carry_44 rfl ⟨b4, by decide, by decide⟩ rfl (by rw [b5]; omega) (by rw [b5]; decide) ?_
          rw [hp]
          refine v_ast9 (q := 47) dX9_carry_45 rfl (by decide) rfl rfl ?_
          refine v_ald9 (q := 49) dX9_carry_47 rfl rfl ?_
          refine v_instNo (q := 52) dX9_carry_49 rfl CL4 cl_X9_41 (by decide) w2 ?_
          refine v_if_eq (t := 74) (q := 55) dX9_carry_52 (by decide) rfl (fun _ => ?_) (fun hc => absurd rfl hc)
          refine v_ald0 (q := 75) dX9_carry_74 rfl rfl ?_
          refine v_getR (q := 78) dX9_carry_75 rfl gf_X9_17_8 (by assumption) (by assumption) ?_
          refine v_ild6 (q := 80) dX9_carry_78 rfl ?_
          refine v_aald (q := 81) _ dX9_carry_80 rfl ⟨b4, by decide, by decide⟩ rfl (by rw [b5]; omega) (by rw [b5]; decide) ?_
          rw [hp]
          refine v_ast9 (q := 83) dX9_carry_81 rfl (by decide) rfl rfl ?_
          refine v_ald9 (q := 85) dX9_carry_83 rfl rfl ?_
          refine v_inst (q := 88) dX9_carry_85 rfl CL4 cl_X9_46 w2 ?_
          refine v_if_eq (t := 130) (q := 91) dX9_carry_88 (by decide) rfl (fun hc => absurd hc (by decide)) (fun _ => ?_)
          refine v_ald9 (q := 93) dX9_carry_91 rfl rfl ?_
          refine v_cast (q := 96) dX9_carry_93 rfl CL4 cl_X9_46 w2 ?_
          refine v_ast8 (q := 98) dX9_carry_96 rfl (by decide) rfl rfl ?_
          refine v_ald8 (q := 100) dX9_carry_98 rfl rfl ?_
          refine v_ild2 (q := 101) dX9_carry_100 rfl ?_
          refine v_ild3 (q := 102) dX9_carry_101 rfl ?_
          refine v_lld4 (q := 104) dX9_carry_102 rfl ?_
          refine v_callV (q := 107) (d' := d + n + 10 + 1) (av := [.int (nI k), .int m, .long v]) dX9_carry_104 rfl ok_X4_gives CL4 ml_X9_210 im_X4_gives se_X4_gives (by assumption) (by omega) rfl rfl (Nat.le_of_ble_eq_true rfl) ?_
          refine k_givesV (d := d + n + 9) hS w1 (by omega) hLog gd.1 (fun h1 hV1 hL1 wf1 hF1 y1 y2 y3 y4 => ?_)
          have hM1 := hM.stage (rows' := xR X) hsm hF1 wf1 hV1 hL1 ⟨[], (List.append_nil _).symm⟩
          have hK1 := KX.set X s (passS (xS X s) (nI k) m v) (xR X) (KS_pass _ _ _ _) ⟨[], (List.append_nil _).symm⟩
          have w' : isW (passS (xS X s) (nI k) m v) = false := by rw [(KS_pass (xS X s) (nI k) m v).1.w]; exact w1
          have z1 : entS (passS (xS X s) (nI k) m v) = entS (xS X s) := (if_neg (by rw [w']; decide)).trans (if_neg (by rw [w1]; decide)).symm
          have z2 : camS (passS (xS X s) (nI k) m v) = camS (xS X s) := (if_neg (by rw [w']; decide)).trans (if_neg (by rw [w1]; decide)).symm
          have z3 : potS (passS (xS X s) (nI k) m v) = potS (xS X s) := (if_neg (by rw [w']; decide)).trans (if_neg (by rw [w1]; decide)).symm
          have z4 : sSes (passS (xS X s) (nI k) m v) = sSes (xS X s) := by
            unfold sSes
            rw [(KS_pass (xS X s) (nI k) m v).1.2.1]
          obtain ⟨hB1, hC1⟩ := hB.set (S := passS (xS X s) (nI k) m v) (rows' := xR X) hsm (by rw [w', w1]) z1 z2 (by omega) z4 (fun q => by rw [w'] at q; cases q)
          have hL2 : Led h us uz X h1 (upR us s (us s)) (upR uz s (uz s)) (xSet X s (passS (xS X s) (nI k) m v) (xR X)) := Led.stage hsm (by omega) (by omega)
          have hF2 : Fr ow ow CS h h1 := hF1.mono (fun t ht => SS_CS (by omega) ht)
          have k1 : hK h1 (sp s) = 5 := by
            rcases hV1.2 with ⟨q, _⟩ | ⟨_, q, _⟩
            · rw [w'] at q
              cases q
            · exact q
          have c1 : hK h1 c = 9 := hM1.1.1
          by_cases hpb : passB (xS X s) v = true
          · rw [if_pos hpb]
            refine v_if_eq (t := 130) (q := 110) dX9_carry_107 (by decide) rfl (fun hc => absurd hc (by decide)) (fun _ => ?_)
            have eW : cyW X n f s = wz X n (8 + s) := by
              unfold cyW
              rw [if_pos hf, if_neg (by rw [w1]; decide)]
            have e9 : gI (passS (xS X s) (nI k) m v) 9 = givK (gI (xS X s) 3) (gI (xS X s) 6) (nI k) v := by
              unfold passS
              rw [if_pos hpb]
              rfl
            obtain ⟨k', hk', ek'⟩ := givK_bd (key := nI k) (v := v) (hG.2.2 s hsm) hk rfl
            refine v_ald0 (q := 111) dX9_carry_110 rfl rfl ?_
            refine v_bipush (q := 113) (v := 8) dX9_carry_111 rfl (by decide) ?_
            refine v_ild6 (q := 115) dX9_carry_113 rfl ?_
            refine v_iadd (q := 116) dX9_carry_115 rfl ?_
            refine v_ald8 (q := 118) dX9_carry_116 rfl rfl ?_
            refine v_getI (q := 121) dX9_carry_118 rfl gf_X9_177_4 (by assumption) ?_
            rw [y3, e9, ek']
            refine v_ild3 (q := 122) dX9_carry_121 rfl ?_
            refine v_ald8 (q := 124) dX9_carry_122 rfl rfl ?_
            refine v_getL (q := 127) dX9_carry_124 rfl gf_X9_183_4 (by assumption) ?_
            rw [y4, show (8 : Int32) = nI 8 from rfl, nI_add]
            refine v_callV (q := 130) (d' := d + n + 10 + 1) (av := [.int (nI (8 + s)), .int (nI k'), .int m, .long (gV (passS (xS X s) (nI k) m v))]) dX9_carry_127 rfl ok_X9_carry CL8 ml_X9_101 im_X9_carry se_X9_carry (by assumption) (by omega) rfl rfl (Nat.le_of_ble_eq_true rfl) ?_
            have eZ := wz_same hK1.sg n (8 + s)
            refine IH h1 ow _ _ _ (8 + s) k' m _ _ hM1 (hG.same hK1.sg) hB1 (show 8 + s < 8 + xM X by omega) (Or.inr (by omega)) hk' m0 m1 (by rw [eZ]; omega) (fun h2 ow2 us2 uz2 X2 e2 hM2 hX2 hB2 hC2 hF3 hL3 => ?_)
            rw [eZ] at hC2
            refine rest h2 ow2 us2 uz2 X2 _ _ _ ?_ hM2 (hK1.tr hX2) hB2 (by omega) (hF2.tr hF3) (hL2.tr hL3 rfl)
            rw [e2]
            unfold cyF
            rw [if_pos hf, if_neg (by rw [w1]; decide), if_pos hpb, e9, ek']
          · rw [if_neg hpb]
            refine v_if_eq (t := 130) (q := 110) dX9_carry_107 (by decide) rfl (fun _ => ?_) (fun hc => absurd rfl hc)
            refine rest h1 ow _ _ _ _ _ _ ?_ hM1 hK1 hB1 (by omega) hF2 hL2
            unfold cyF
            rw [if_pos hf, if_neg (by rw [w1]; decide), if_neg hpb]
      · rw [if_neg hf]
        refine v_if_ne (t := 38) (q := 35) dX9_carry_32 (by decide) rfl (fun hc => absurd rfl hc) (fun _ => ?_)
        refine v_goto (q := 130) dX9_carry_35 (by decide) ?_
        refine rest h ow us uz X _ _ _ ?_ hM (KX.rf X) hB (Nat.le_add_right _ _) (Fr.rf h) (Led.rf h us uz X)
        unfold cyF
        rw [if_neg hf]
    rcases hS.tag.2 with kk | kk
    · refine v_ild1 (q := 29) dX9_carry_28 rfl ?_
      refine v_callV (q := 32) (d' := d) (av := [.int (nI f)]) dX9_carry_29 rfl ok_X6_isFedBy CL4 ml_X9_59 im_X6_isFedBy se_X6_isFedBy_X4 (by assumption) (by omega) rfl rfl (Nat.le_of_ble_eq_true rfl) ?_
      exact k_fed (Or.inl kk) hS.1.2.2.2.2 hf24 after
    · refine v_ild1 (q := 29) dX9_carry_28 rfl ?_
      refine v_callV (q := 32) (d' := d) (av := [.int (nI f)]) dX9_carry_29 rfl ok_X6_isFedBy CL7 ml_X9_59 im_X6_isFedBy se_X6_isFedBy_X8 (by assumption) (by omega) rfl rfl (Nat.le_of_ble_eq_true rfl) ?_
      exact k_fed (Or.inr kk) hS.1.2.2.2.2 hf24 after
end L93
