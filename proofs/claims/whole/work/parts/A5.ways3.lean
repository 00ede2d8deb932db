/-! A5: WindowMill: hasTooManyWays -/
theorem upd_at (f : Nat → Int32) (i : Nat) (x : Int32) : upd f i x i = x := by
  unfold upd
  simp
theorem upd_off (f : Nat → Int32) {i j : Nat} (x : Int32) (h : j ≠ i) : upd f i x j = f j := by
  unfold upd
  simp [h]
section LA5
variable {g : Gl} {d : Nat} {ow us uz : Nat → Nat} {c lg SA ST WY : Nat} {po sp : Nat → Nat} {X : Sg} {Q : Option Value → Hp → Prop}
/-- the ways to the first s stages stand in the row -/
def WyH (h : Hp) (WY : Nat) (W : Nat → Nat) (s : Nat) : Prop := ∀ i, i < s → aI h WY i = nI (W i)
theorem tm_in {p t0 f0 : Nat} (hp : p < 8) (ht : t0 < xM X) (hf : f0 < 8 + t0) (h0 : gF (xS X t0) f0 = false) :
    ∀ (t s : Nat) (h : Hp), s + t = xM X → MV g h ow c lg SA ST WY po sp X us uz → WyH h WY (wyA (fdN X t0 f0) p (xM X)) s →
      (∀ (h' : Hp) (u : Value), MV g h' ow c lg SA ST WY po sp X us uz → Fr ow ow CS h h' → hs h' = hs h → hz h' = hz h → V g mX9_hasTooManyWays (d + 2) 108 [.ref c, .int (nI t0), .int (nI f0), .int (nI p), .int (nI (fb_sm (wyA (fdN X t0 f0) p (xM X)) (xM X))), .int (nI (fb_sm (fun s => if isW (xS X s) then wyA (fdN X t0 f0) p (xM X) s else 0) (xM X))), .int (nI (xM X)), zz] [] h' Q) →
      V g mX9_hasTooManyWays (d + 2) 17 [.ref c, .int (nI t0), .int (nI f0), .int (nI p), .int (nI (fb_sm (wyA (fdN X t0 f0) p (xM X)) s)), .int (nI (fb_sm (fun s => if isW (xS X s) then wyA (fdN X t0 f0) p (xM X) s else 0) s)), .int (nI s), zz] [] h Q := by
  intro t
  induction t with
  | zero =>
    intro s h hst hM hW hQ
    have a1 : hK h c = 9 := hM.1.1
    have a7 : fI h 46 c = nI (xM X) := hM.1.2.2.2.2.2.2.1
    have : s = xM X := by omega
    subst this
    refine v_ild6 (q := 19) dX9_hasTooManyWays_17 rfl ?_
    refine v_ald0 (q := 20) dX9_hasTooManyWays_19 rfl rfl ?_
    refine v_getI (q := 23) dX9_hasTooManyWays_20 rfl gf_X9_37_8 (by assumption) ?_
    rw [a7]
    refine v_icmp_ge (t := 108) (q := 26) dX9_hasTooManyWays_23 (by decide) rfl (fun _ => ?_) (fun hc => absurd (Int32.le_refl _) hc)
    exact hQ h zz hM (Fr.rf h) rfl rfl
  | succ t ih =>
    intro s h hst hM hW hQ
    have a1 : hK h c = 9 := hM.1.1
    have a4 : fP h 43 c = some ST := hM.1.2.2.2.1
    have a5 : fP h 44 c = some WY := hM.1.2.2.2.2.1
    have a7 : fI h 46 c = nI (xM X) := hM.1.2.2.2.2.2.2.1
    have b7 : hK h WY = 21 := hM.2.1.2.2.2.2.2.2.1
    have b8 : hN h WY = 16 := hM.2.1.2.2.2.2.2.2.2.1
    have h16 : xM X ≤ 16 := hM.2.2.2.2.1
    have hsm : s < xM X := by omega
    have eW := wyA_eq (fd := fdN X t0 f0) (p := p) hsm
    generalize eWW : wyA (fdN X t0 f0) p (xM X) = W at *
    have eN := wyS_new (X := X) (p := p) (s := s) (w := W) h0 hf
    refine v_ild6 (q := 19) dX9_hasTooManyWays_17 rfl ?_
    refine v_ald0 (q := 20) dX9_hasTooManyWays_19 rfl rfl ?_
    refine v_getI (q := 23) dX9_hasTooManyWays_20 rfl gf_X9_37_8 (by assumption) ?_
    rw [a7]
    refine v_icmp_ge (t := 108) (q := 26) dX9_hasTooManyWays_23 (by decide) rfl (fun hc => absurd hc (nI_ge hsm (by omega))) (fun _ => ?_)
    refine v_ild6 (q := 28) dX9_hasTooManyWays_26 rfl ?_
    refine v_ild1 (q := 29) dX9_hasTooManyWays_28 rfl ?_
    have rest : ∀ x : Nat, x = (if s = t0 then srcW p W f0 else 0) → V g mX9_hasTooManyWays (d + 2) 42 [.ref c, .int (nI t0), .int (nI f0), .int (nI p), .int (nI (fb_sm W s)), .int (nI (fb_sm (fun s => if isW (xS X s) then W s else 0) s)), .int (nI s), zz] [.int (nI x)] h Q := fun x hx => by
      refine v_ist7 (q := 44) dX9_hasTooManyWays_42 rfl (by decide) rfl ?_
      refine v_ald0 (q := 45) dX9_hasTooManyWays_44 rfl rfl ?_
      refine v_getR (q := 48) dX9_hasTooManyWays_45 rfl gf_X9_21_8 (by assumption) (by assumption) ?_
      refine v_ild6 (q := 50) dX9_hasTooManyWays_48 rfl ?_
      refine v_ald0 (q := 51) dX9_hasTooManyWays_50 rfl rfl ?_
      refine v_ild3 (q := 52) dX9_hasTooManyWays_51 rfl ?_
      refine v_ild6 (q := 54) dX9_hasTooManyWays_52 rfl ?_
      refine v_callV (q := 57) (d' := d + 1) (av := [.int (nI p), .int (nI s)]) dX9_hasTooManyWays_54 rfl ok_X9_waysToStage CL8 ml_X9_198 im_X9_waysToStage se_X9_waysToStage (by assumption) (by omega) rfl rfl (Nat.le_of_ble_eq_true rfl) ?_
      refine k_wtStage (d := d) (w := W) hM hp hsm hW ?_
      refine v_ild7 (q := 59) dX9_hasTooManyWays_57 rfl ?_
      refine v_iadd (q := 60) dX9_hasTooManyWays_59 rfl ?_
      rw [nI_add, hx, ← eN, ← eW]
      refine v_iast (q := 61) s dX9_hasTooManyWays_60 rfl b7 rfl (by rw [b8]; omega) (by rw [b8]; decide) ?_
      obtain ⟨hM1, hF1⟩ := hM.wy (r := upd (aI h WY) s (nI (W s)))
      have hW1 : WyH (sAI h WY (upd (aI h WY) s (nI (W s)))) WY W (s + 1) := fun i hi => by
        rw [aI_sAI, if_pos rfl]
        by_cases e : i = s
        · subst e
          exact upd_at _ _ _
        · rw [upd_off _ _ e]
          exact hW i (by omega)
      have z1 : hs (sAI h WY (upd (aI h WY) s (nI (W s)))) = hs h := rfl
      have z2 : hz (sAI h WY (upd (aI h WY) s (nI (W s)))) = hz h := rfl
      generalize sAI h WY (upd (aI h WY) s (nI (W s))) = h1 at *
      have c1 : hK h1 c = 9 := hM1.1.1
      have c4 : fP h1 43 c = some ST := hM1.1.2.2.2.1
      have c5 : fP h1 44 c = some WY := hM1.1.2.2.2.2.1
      have d4 : hK h1 ST = 26 := hM1.2.1.2.2.2.1
      have d5 : hN h1 ST = 16 := hM1.2.1.2.2.2.2.1
      have d7 : hK h1 WY = 21 := hM1.2.1.2.2.2.2.2.2.1
      have d8 : hN h1 WY = 16 := hM1.2.1.2.2.2.2.2.2.2.1
      have hS := hM1.st hsm
      have hpS := ((hM1.2.2.2.1 s (by omega)).1 hsm).1
      refine v_ild4 (q := 63) dX9_hasTooManyWays_61 rfl ?_
      refine v_ald0 (q := 64) dX9_hasTooManyWays_63 rfl rfl ?_
      refine v_getR (q := 67) dX9_hasTooManyWays_64 rfl gf_X9_21_8 (by assumption) (by assumption) ?_
      refine v_ild6 (q := 69) dX9_hasTooManyWays_67 rfl ?_
      refine v_iald (q := 70) _ dX9_hasTooManyWays_69 rfl d7 rfl (by rw [d8]; omega) (by rw [d8]; decide) ?_
      rw [hW1 s (by omega)]
      refine v_iadd (q := 71) dX9_hasTooManyWays_70 rfl ?_
      rw [nI_add]
      refine v_ist4 (q := 73) dX9_hasTooManyWays_71 rfl (by decide) rfl ?_
      refine v_ild5 (q := 75) dX9_hasTooManyWays_73 rfl ?_
      refine v_ald0 (q := 76) dX9_hasTooManyWays_75 rfl rfl ?_
      refine v_getR (q := 79) dX9_hasTooManyWays_76 rfl gf_X9_17_8 (by assumption) (by assumption) ?_
      refine v_ild6 (q := 81) dX9_hasTooManyWays_79 rfl ?_
      refine v_aald (q := 82) _ dX9_hasTooManyWays_81 rfl ⟨d4, by decide, by decide⟩ rfl (by rw [d5]; omega) (by rw [d5]; decide) ?_
      rw [hpS]
      have fin : ∀ y : Nat, y = (if isW (xS X s) then W s else 0) → V g mX9_hasTooManyWays (d + 2) 99 [.ref c, .int (nI t0), .int (nI f0), .int (nI p), .int (nI (fb_sm W s + W s)), .int (nI (fb_sm (fun s => if isW (xS X s) then W s else 0) s)), .int (nI s), .int (nI (if s = t0 then srcW p W f0 else 0))] [.int (nI y), .int (nI (fb_sm (fun s => if isW (xS X s) then W s else 0) s))] h1 Q := fun y hy => by
        subst hy
        refine v_iadd (q := 100) dX9_hasTooManyWays_99 rfl ?_
        rw [nI_add]
        refine v_ist5 (q := 102) dX9_hasTooManyWays_100 rfl (by decide) rfl ?_
        refine v_inc6 (q := 105) dX9_hasTooManyWays_102 rfl (by decide) rfl rfl ?_
        rw [inc1]
        refine v_goto (q := 17) dX9_hasTooManyWays_105 (by decide) ?_
        refine v_fg (FG.k (FG.k (FG.k (FG.k (FG.k (FG.k (FG.k (FG.z FG.nil)))))))) ?_
        exact ih (s + 1) h1 (by omega) hM1 hW1 (fun h2 u hM2 hF2 y1 y2 => hQ h2 u hM2 (hF1.tr hF2) (y1.trans z1) (y2.trans z2))
      rcases hS.2 with ⟨w1, w2, _⟩ | ⟨w1, w2, _⟩
      · rw [if_pos w1] at fin
        refine v_inst (q := 85) dX9_hasTooManyWays_82 rfl CL7 cl_X9_41 w2 ?_
        refine v_if_eq (t := 98) (q := 88) dX9_hasTooManyWays_85 (by decide) rfl (fun hc => absurd hc (by decide)) (fun _ => ?_)
        refine v_ald0 (q := 89) dX9_hasTooManyWays_88 rfl rfl ?_
        refine v_getR (q := 92) dX9_hasTooManyWays_89 rfl gf_X9_21_8 (by assumption) (by assumption) ?_
        refine v_ild6 (q := 94) dX9_hasTooManyWays_92 rfl ?_
        refine v_iald (q := 95) _ dX9_hasTooManyWays_94 rfl d7 rfl (by rw [d8]; omega) (by rw [d8]; decide) ?_
        rw [hW1 s (by omega)]
        refine v_goto (q := 99) dX9_hasTooManyWays_95 (by decide) ?_
        exact fin _ rfl
      · rw [if_neg (show ¬ isW (xS X s) = true by rw [w1]; decide)] at fin
        refine v_instNo (q := 85) dX9_hasTooManyWays_82 rfl CL4 cl_X9_41 (by decide) w2 ?_
        refine v_if_eq (t := 98) (q := 88) dX9_hasTooManyWays_85 (by decide) rfl (fun _ => ?_) (fun hc => absurd rfl hc)
        refine v_iconst (q := 99) (v := 0) dX9_hasTooManyWays_98 rfl (by decide) ?_
        exact fin 0 rfl
    by_cases e : s = t0
    · rw [if_pos e] at rest
      refine v_icmp_ne (t := 41) (q := 32) dX9_hasTooManyWays_29 (by decide) rfl (fun hc => absurd (by rw [e]) hc) (fun _ => ?_)
      refine v_ald0 (q := 33) dX9_hasTooManyWays_32 rfl rfl ?_
      refine v_ild3 (q := 34) dX9_hasTooManyWays_33 rfl ?_
      refine v_ild2 (q := 35) dX9_hasTooManyWays_34 rfl ?_
      refine v_callV (q := 38) (d' := d + 1) (av := [.int (nI p), .int (nI f0)]) dX9_hasTooManyWays_35 rfl ok_X9_waysToSource CL8 ml_X9_194 im_X9_waysToSource se_X9_waysToSource (by assumption) (by omega) rfl rfl (Nat.le_of_ble_eq_true rfl) ?_
      refine k_wtSource (w := W) hM hp (by omega) (fun h8 => hW _ (by omega)) ?_
      refine v_goto (q := 42) dX9_hasTooManyWays_38 (by decide) ?_
      exact rest _ rfl
    · rw [if_neg e] at rest
      refine v_icmp_ne (t := 41) (q := 32) dX9_hasTooManyWays_29 (by decide) rfl (fun _ => ?_) (fun hc => absurd ((nI_eq (by omega) (by omega)).mp hc) e)
      refine v_iconst (q := 42) (v := 0) dX9_hasTooManyWays_41 rfl (by decide) ?_
      exact rest 0 rfl
theorem tm_out {t0 f0 : Nat} (ht : t0 < xM X) (hf : f0 < 8 + t0) (h0 : gF (xS X t0) f0 = false) :
    ∀ (t p : Nat) (h : Hp), p + t = 8 → MV g h ow c lg SA ST WY po sp X us uz →
      (∀ (h' : Hp) (r : Bool), r = (List.range' p t).any (tooM (fdN X t0 f0) (fun s => isW (xS X s)) (xM X)) → MV g h' ow c lg SA ST WY po sp X us uz → Fr ow ow CS h h' → hs h' = hs h → hz h' = hz h → Q (some (.int (if r then 1 else 0))) h') →
      V g mX9_hasTooManyWays (d + 2) 2 [.ref c, .int (nI t0), .int (nI f0), .int (nI p), zz, zz, zz, zz] [] h Q := by
  intro t
  induction t with
  | zero =>
    intro p h hpt hM hQ
    have : p = 8 := by omega
    subst this
    refine v_ild3 (q := 3) dX9_hasTooManyWays_2 rfl ?_
    refine v_bipush (q := 5) (v := 8) dX9_hasTooManyWays_3 rfl (by decide) ?_
    refine v_icmp_ge (t := 129) (q := 8) dX9_hasTooManyWays_5 (by decide) rfl (fun _ => ?_) (fun hc => absurd (show nI 8 ≤ nI 8 from Int32.le_refl _) hc)
    refine v_iconst (q := 130) (v := 0) dX9_hasTooManyWays_129 rfl (by decide) ?_
    refine v_zret dX9_hasTooManyWays_130 rfl rfl ?_
    exact hQ h false rfl hM (Fr.rf h) rfl rfl
  | succ t ih =>
    intro p h hpt hM hQ
    have h16 : xM X ≤ 16 := hM.2.2.2.2.1
    have s1 := wyA_sum (fd := fdN X t0 f0) (p := p) (xM X) (xM X) (Nat.le_refl _)
    have s2 : fb_sm (fun s => if isW (xS X s) then wyA (fdN X t0 f0) p (xM X) s else 0) (xM X) ≤ fb_sm (wyA (fdN X t0 f0) p (xM X)) (xM X) := fb_sm_le (fun s _ => by
      split
      · exact Nat.le_refl _
      · exact Nat.zero_le _)
    have s3 : (2 : Nat) ^ xM X ≤ 2 ^ 16 := Nat.pow_le_pow_right (by decide) h16
    rw [List.range'_succ, List.any_cons] at hQ
    refine v_ild3 (q := 3) dX9_hasTooManyWays_2 rfl ?_
    refine v_bipush (q := 5) (v := 8) dX9_hasTooManyWays_3 rfl (by decide) ?_
    refine v_icmp_ge (t := 129) (q := 8) dX9_hasTooManyWays_5 (by decide) rfl (fun hc => absurd hc (show ¬ nI 8 ≤ nI p from nI_ge (by omega) (by omega))) (fun _ => ?_)
    refine v_iconst (q := 9) (v := 0) dX9_hasTooManyWays_8 rfl (by decide) ?_
    refine v_ist4 (q := 11) dX9_hasTooManyWays_9 rfl (by decide) rfl ?_
    refine v_iconst (q := 12) (v := 0) dX9_hasTooManyWays_11 rfl (by decide) ?_
    refine v_ist5 (q := 14) dX9_hasTooManyWays_12 rfl (by decide) rfl ?_
    refine v_iconst (q := 15) (v := 0) dX9_hasTooManyWays_14 rfl (by decide) ?_
    refine v_ist6 (q := 17) dX9_hasTooManyWays_15 rfl (by decide) rfl ?_
    refine tm_in (d := d) (X := X) (t0 := t0) (f0 := f0) (p := p) (by omega) ht hf h0 (xM X) 0 h (Nat.zero_add _) hM (fun i hi => absurd hi (Nat.not_lt_zero _)) (fun h1 u hM1 hF1 y1 y2 => ?_)
    have yes : tooM (fdN X t0 f0) (fun s => isW (xS X s)) (xM X) p = true → V g mX9_hasTooManyWays (d + 2) 121 [.ref c, .int (nI t0), .int (nI f0), .int (nI p), .int (nI (fb_sm (wyA (fdN X t0 f0) p (xM X)) (xM X))), .int (nI (fb_sm (fun s => if isW (xS X s) then wyA (fdN X t0 f0) p (xM X) s else 0) (xM X))), .int (nI (xM X)), zz] [] h1 Q := fun hy => by
      refine v_iconst (q := 122) (v := 1) dX9_hasTooManyWays_121 rfl (by decide) ?_
      refine v_zret dX9_hasTooManyWays_122 rfl rfl ?_
      exact hQ h1 true (by rw [hy, Bool.true_or]) hM1 hF1 y1 y2
    refine v_ild4 (q := 110) dX9_hasTooManyWays_108 rfl ?_
    refine v_bipush (q := 112) (v := 32) dX9_hasTooManyWays_110 rfl (by decide) ?_
    by_cases h32 : 32 < fb_sm (wyA (fdN X t0 f0) p (xM X)) (xM X)
    · refine v_icmp_gt (t := 121) (q := 115) dX9_hasTooManyWays_112 (by decide) rfl (fun _ => ?_) (fun hc => absurd (show nI 32 < nI _ from nI_lt h32 (by omega)) hc)
      exact yes (decide_eq_true (Or.inl h32))
    refine v_icmp_gt (t := 121) (q := 115) dX9_hasTooManyWays_112 (by decide) rfl (fun hc => absurd hc (show ¬ nI 32 < nI _ from nI_nlt (by omega) (by decide))) (fun _ => ?_)
    refine v_ild5 (q := 117) dX9_hasTooManyWays_115 rfl ?_
    refine v_iconst (q := 118) (v := 4) dX9_hasTooManyWays_117 rfl (by decide) ?_
    by_cases h4 : 4 < fb_sm (fun s => if isW (xS X s) then wyA (fdN X t0 f0) p (xM X) s else 0) (xM X)
    · refine v_icmp_le (t := 123) (q := 121) dX9_hasTooManyWays_118 (by decide) rfl (fun hc => absurd hc (show ¬ nI _ ≤ nI 4 from nI_ge h4 (by omega))) (fun _ => ?_)
      exact yes (decide_eq_true (Or.inr h4))
    refine v_icmp_le (t := 123) (q := 121) dX9_hasTooManyWays_118 (by decide) rfl (fun _ => ?_) (fun hc => absurd (show nI _ ≤ nI 4 from nI_le (by omega) (by decide)) hc)
    have hno : tooM (fdN X t0 f0) (fun s => isW (xS X s)) (xM X) p = false := decide_eq_false (fun z => z.elim h32 h4)
    refine v_inc3 (q := 126) dX9_hasTooManyWays_123 rfl (by decide) rfl rfl ?_
    rw [inc1]
    refine v_goto (q := 2) dX9_hasTooManyWays_126 (by decide) ?_
    refine v_fg (FG.k (FG.k (FG.k (FG.k (FG.z (FG.z (FG.z (FG.z FG.nil)))))))) ?_
    refine ih (p + 1) h1 (by omega) hM1 (fun h2 r er hM2 hF2 x1 x2 => hQ h2 r ?_ hM2 (hF1.tr hF2) (x1.trans y1) (x2.trans y2))
    rw [hno, Bool.false_or]
    exact er
theorem k_tooMany {h : Hp} {t0 f0 : Nat} (hM : MV g h ow c lg SA ST WY po sp X us uz) (ht : t0 < xM X) (hf : f0 < 8 + t0) (h0 : gF (xS X t0) f0 = false)
    (hQ : ∀ h', MV g h' ow c lg SA ST WY po sp X us uz → Fr ow ow CS h h' → hs h' = hs h → hz h' = hz h → Q (some (.int (if tooMany (fdN X t0 f0) (fun s => isW (xS X s)) (xM X) then 1 else 0))) h') :
    Call g mX9_hasTooManyWays (d + 2) [.ref c, .int (nI t0), .int (nI f0)] h Q := by
  refine Call.of [.ref c, .int (nI t0), .int (nI f0), zz, zz, zz, zz, zz] (by decide) (Nat.le_of_ble_eq_true rfl) rfl ?_
  refine v_iconst (q := 1) (v := 0) dX9_hasTooManyWays_0 rfl (by decide) ?_
  refine v_ist3 (q := 2) dX9_hasTooManyWays_1 rfl (by decide) rfl ?_
  refine tm_out (d := d) (X := X) ht hf h0 8 0 h rfl hM (fun h' r er hM' hF y1 y2 => ?_)
  have e : tooMany (fdN X t0 f0) (fun s => isW (xS X s)) (xM X) = r := by
    rw [er]
    unfold tooMany
    rw [List.range_eq_range']
  rw [← e]
  exact hQ h' hM' hF y1 y2
end LA5
