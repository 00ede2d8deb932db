/-! A6: WindowMill: feed -/
def stFd (S : Stg) (f : Nat) : Stg := (gI S, gV S, fun i => if i = f then true else gF S i, gL S)
abbrev feedB (X : Sg) (s f : Int32) : Prop := (0 ≤ s ∧ s < nI (xM X)) ∧ (0 ≤ f ∧ f < nI (8 + xM X))
def feedR (X : Sg) (s f : Nat) : Int32 × Sg :=
  if 8 + s ≤ f ∨ (8 ≤ f ∧ isW (xS X (f - 8)) = true) ∨ gF (xS X s) f = true then (-3, X)
  else if 0 < gI (xS X s) 4 then (-4, X)
  else if tooMany (fdN X s f) (fun s => isW (xS X s)) (xM X) = true then (-6, X)
  else (nI (cntB (gF (stFd (xS X s) f)) 24), settleS (xSet X s (stFd (xS X s) f) (xR X)))
def doFeed (X : Sg) (s f : Int32) : Int32 × Sg := if feedB X s f then feedR X s.toNatClampNeg f.toNatClampNeg else (-1, X)
section LA6
variable {g : Gl} {d : Nat} {h : Hp} {ow us uz : Nat → Nat} {c lg SA ST WY : Nat} {po sp : Nat → Nat} {X : Sg} {Q : Option Value → Hp → Prop}
theorem shl_24 : ∀ f, f < 24 → (1 : Int32) <<< (nI f &&& 31) = nI (2 ^ f) := by decide +kernel
theorem msk_or {fd : Nat → Bool} {f : Nat} (hf : f < 24) : nI (mskN fd 24) ||| (1 : Int32) <<< (nI f &&& 31) = nI (mskN (fun i => if i = f then true else fd i) 24) := by
  rw [shl_24 f hf, fa_or]
  congr 1
  refine Nat.eq_of_testBit_eq (fun i => ?_)
  rw [Nat.testBit_or, mskN_bit, mskN_bit, Nat.testBit_two_pow]
  by_cases e : f = i
  · subst e
    simp [hf]
  · rw [if_neg (fun z => e z.symm), decide_eq_false e, Bool.or_false]
theorem StV.set5 {s p US UZ f : Nat} {S : Stg} {rows : List Rw} (hV : StV g h ow s p lg S rows US UZ) (hs6 : s < 16) (hf : f < 24) : StV g (sFI h 5 p (fI h 5 p ||| (1 : Int32) <<< (nI f &&& 31))) ow s p lg (stFd S f) rows US UZ ∧ Fr ow ow (fun t => t = tP s) h (sFI h 5 p (fI h 5 p ||| (1 : Int32) <<< (nI f &&& 31))) := by
  have ht := hV.tag
  have hV0 := hV
  obtain ⟨⟨a1, a2, a3, a4, a5⟩, hV2⟩ := hV
  rw [a5, msk_or hf]
  have frP : Fr ow ow (fun t => t = tP s) h (sFI h 5 p (nI (mskN (fun i => if i = f then true else gF S i) 24))) := Fr.of0 (P := fun a => a = p) (Smo_sFI rfl) (fun a _ e => by rw [e]; exact ht.1)
  refine ⟨?_, frP⟩
  rcases hV2 with ⟨b1, b2, b3, A, q1, q2, w⟩ | ⟨b1, b2, b3, b4, b5, b6, b7, b8, b9, b10, b11⟩
  · exact ⟨⟨(fi_ne _ _ _ _ (by decide)).trans a1, (fi_ne _ _ _ _ (by decide)).trans a2, (fi_ne _ _ _ _ (by decide)).trans a3, (fi_ne _ _ _ _ (by decide)).trans a4, fi_eq _ _ _ _⟩, Or.inl ⟨b1, b2, b3, A, q1, q2, (w.set (u := nI (mskN (fun i => if i = f then true else gF S i) 24)) hs6 (Or.inr (Or.inr rfl))).1⟩⟩
  · exact stv_cell hV0 b1 rfl b1 ((fi_ne _ _ _ _ (by decide)).trans a1) ((fi_ne _ _ _ _ (by decide)).trans a2) ((fi_ne _ _ _ _ (by decide)).trans a3) ((fi_ne _ _ _ _ (by decide)).trans a4) (fi_eq _ _ _ _) ((fi_ne _ _ _ _ (by decide)).trans b4) ((fi_ne _ _ _ _ (by decide)).trans b5) ((fi_ne _ _ _ _ (by decide)).trans b6) ((fi_ne _ _ _ _ (by decide)).trans b7) ((fi_ne _ _ _ _ (by decide)).trans b8) b9
theorem MI.feed {s f : Nat} (h : MI X) (hs : s < xM X) (hf : f < 8 + s) (hw : 8 ≤ f → isW (xS X (f - 8)) = false) (ht : tooMany (fdN X s f) (fun s => isW (xS X s)) (xM X) = false) : MI (xSet X s (stFd (xS X s) f) (xR X)) := by
  obtain ⟨⟨g1, g2, g3⟩, hB, h3, h4, h5⟩ := h
  obtain ⟨hB', hC'⟩ := hB.set (S := stFd (xS X s) f) (rows' := xR X) hs rfl rfl rfl (Nat.le_refl _) rfl (fun _ => ⟨rfl, rfl⟩)
  have eS : ∀ t, isW (xS (xSet X s (stFd (xS X s) f) (xR X)) t) = isW (xS X t) ∧ (∀ k, gI (xS (xSet X s (stFd (xS X s) f) (xR X)) t) k = gI (xS X t) k) ∧ ∀ i, gF (xS (xSet X s (stFd (xS X s) f) (xR X)) t) i = fdN X s f t i := fun t => by
    by_cases e : t = s
    · subst e
      rw [xS_set]
      refine ⟨rfl, fun _ => rfl, fun i => ?_⟩
      show (if i = f then true else gF (xS X t) i) = _
      by_cases ei : i = f
      · subst ei
        rw [if_pos rfl, fdN_at]
      · rw [if_neg ei, fdN_ne (fun z => ei z.2)]
    · rw [xS_set_ne X _ _ e]
      exact ⟨rfl, fun _ => rfl, fun i => (fdN_ne (fun z => e z.1)).symm⟩
  have hG : GO (xSet X s (stFd (xS X s) f) (xR X)) := by
    refine ⟨g1, fun t ht' i hi => ?_, fun t ht' => ?_⟩
    · rw [(eS t).2.2] at hi
      rw [(eS _).1]
      by_cases e : t = s ∧ i = f
      · obtain ⟨rfl, rfl⟩ := e
        exact ⟨hf, hw⟩
      · rw [fdN_ne e] at hi
        exact g2 t ht' i hi
    · rw [(eS t).2.1, (eS t).2.1, (eS t).2.1]
      exact g3 t ht'
  refine ⟨hG, hB', by rw [hC']; exact h3, h4, fun p hp => ?_⟩
  rw [← ways_both hG hp]
  have e1 : (fun s1 f1 => gF (xS (xSet X s (stFd (xS X s) f) (xR X)) s1) f1) = fdN X s f := funext fun a => funext fun b => (eS a).2.2 b
  rw [e1]
  have e2 : (fun t => if isW (xS (xSet X s (stFd (xS X s) f) (xR X)) t) = true then wyA (fdN X s f) p (xM (xSet X s (stFd (xS X s) f) (xR X))) t else 0) = fun t => if isW (xS X t) then wyA (fdN X s f) p (xM X) t else 0 := funext fun t => by
    rw [(eS t).1]
    rfl
  rw [e2]
  have h6 : tooM (fdN X s f) (fun s => isW (xS X s)) (xM X) p = false := by
    unfold tooMany at ht
    rw [List.any_eq_false] at ht
    exact Bool.eq_false_iff.mpr (ht p (List.mem_range.mpr hp))
  have h7 := of_decide_eq_false h6
  show fb_sm _ (xM X) ≤ 4
  exact Nat.not_lt.mp (fun z => h7 (Or.inr z))
theorem k_feed {s f : Int32} (hM : MV g h ow c lg SA ST WY po sp X us uz) (hI : MI X) (hQ : CQ g c lg SA ST WY po h ow us uz X Q (doFeed X s f).1 (doFeed X s f).2) : Call g mX9_feed (d + 12) [.ref c, .int s, .int f] h Q := by
  have a1 : hK h c = 9 := hM.1.1
  have h16 : xM X ≤ 16 := hM.2.2.2.2.1
  have gd := hM.2.2.2.2.2.2
  refine Call.of [.ref c, .int s, .int f, zz, zz] (by decide) (Nat.le_of_ble_eq_true rfl) rfl ?_
  have no : ∀ u v : Value, ¬ feedB X s f → V g mX9_feed (d + 12) 22 [.ref c, .int s, .int f, u, v] [] h Q := fun u v hn => by
    have e : doFeed X s f = (-1, X) := if_neg hn
    rw [e] at hQ
    refine v_iconst (q := 23) (v := -1) dX9_feed_22 rfl (by decide) ?_
    refine v_iret dX9_feed_23 rfl ?_
    exact hQ h ow us uz sp hM hI (Fr.rf h) (Lg.rf h us uz X)
  refine v_ald0 (q := 1) dX9_feed_0 rfl rfl ?_
  refine v_ild1 (q := 2) dX9_feed_1 rfl ?_
  refine v_callV (q := 5) (d' := d + 11) (av := [.int s]) dX9_feed_2 rfl ok_X9_stageAt CL8 ml_X9_51 im_X9_stageAt se_X9_stageAt (by assumption) (by omega) rfl rfl (Nat.le_of_ble_eq_true rfl) ?_
  refine mv_stageAt hM (fun j hj jm => ?_) (fun hn => ?_)
  · subst hj
    have hs' : 0 ≤ nI j ∧ nI j < nI (xM X) := ⟨nI_pos' (by omega), nI_lt jm (by omega)⟩
    have hS := hM.st jm
    have f4 := hS.1.2.2.2.1
    have kk := hS.tag.2
    refine v_ast3 (q := 6) dX9_feed_5 rfl (by decide) rfl rfl ?_
    refine v_ald0 (q := 7) dX9_feed_6 rfl rfl ?_
    refine v_ild2 (q := 8) dX9_feed_7 rfl ?_
    -- from a source that is there
    have rest : ∀ (i a : Nat), f = nI i → i < 8 + xM X → ((8 ≤ i ∧ isW (xS X (i - 8)) = true ∧ hK h a = 8) ∨ ((8 ≤ i → isW (xS X (i - 8)) = false) ∧ (hK h a = 6 ∨ hK h a = 5))) → V g mX9_feed (d + 12) 11 [.ref c, .int (nI j), .int f, .ref (sp j), zz] [.ref a] h Q := fun i a ei hi hk => by
      subst ei
      have hb : feedB X (nI j) (nI i) := ⟨hs', nI_pos' (by omega), nI_lt hi (by omega)⟩
      have e : doFeed X (nI j) (nI i) = feedR X j i := by
        unfold doFeed
        rw [if_pos hb, nI_clamp (by omega), nI_clamp (by omega)]
      rw [e] at hQ
      clear e hb no
      unfold feedR at hQ
      refine v_ast4 (q := 13) dX9_feed_11 rfl (by decide) rfl rfl ?_
      refine v_ald3 (q := 14) dX9_feed_13 rfl rfl ?_
      refine v_ifnull (r := some (sp j)) (t := 22) (q := 17) dX9_feed_14 (by decide) rfl (fun hc => by cases hc) (fun _ _ => ?_)
      refine v_ald4 (q := 19) dX9_feed_17 rfl rfl ?_
      refine v_ifnonnull (r := some a) (t := 24) (q := 22) dX9_feed_19 (by decide) rfl (fun _ _ => ?_) (fun hc => by cases hc)
      have ring : (8 + j ≤ i ∨ (8 ≤ i ∧ isW (xS X (i - 8)) = true) ∨ gF (xS X j) i = true) → V g mX9_feed (d + 12) 48 [.ref c, .int (nI j), .int (nI i), .ref (sp j), .ref a] [] h Q := fun hr => by
        rw [if_pos hr] at hQ
        refine v_bipush (q := 50) (v := -3) dX9_feed_48 rfl (by decide) ?_
        refine v_iret dX9_feed_50 rfl ?_
        exact hQ h ow us uz sp hM hI (Fr.rf h) (Lg.rf h us uz X)
      refine v_ild2 (q := 25) dX9_feed_24 rfl ?_
      refine v_bipush (q := 27) (v := 8) dX9_feed_25 rfl (by decide) ?_
      refine v_isub (q := 28) dX9_feed_27 rfl ?_
      refine v_ild1 (q := 29) dX9_feed_28 rfl ?_
      have ei : (nI i - 8).toInt = (i : Int) - 8 := by
        rw [Int32.toInt_sub, nI_toInt (by omega), show (8 : Int32).toInt = 8 by decide]
        exact Int.bmod_eq_of_le (by omega) (by omega)
      by_cases hr1 : 8 + j ≤ i
      · refine v_icmp_ge (t := 48) (q := 32) dX9_feed_29 (by decide) rfl (fun _ => ring (Or.inl hr1)) (fun hc => absurd (show nI j ≤ nI i - 8 by rw [fa_le, ei, nI_toInt (by omega)]; omega) hc)
      refine v_icmp_ge (t := 48) (q := 32) dX9_feed_29 (by decide) rfl (fun hc => absurd hc (by rw [fa_le, ei, nI_toInt (by omega)]; omega)) (fun _ => ?_)
      refine v_ald4 (q := 34) dX9_feed_32 rfl rfl ?_
      rcases hk with ⟨k1, k2, k3⟩ | ⟨k1, k2⟩
      · refine v_inst (q := 37) dX9_feed_34 rfl CL7 cl_X9_41 k3 ?_
        refine v_if_ne (t := 48) (q := 40) dX9_feed_37 (by decide) rfl (fun _ => ring (Or.inr (Or.inl ⟨k1, k2⟩))) (fun hc => absurd hc (by decide))
      have go37 : V g mX9_feed (d + 12) 37 [.ref c, .int (nI j), .int (nI i), .ref (sp j), .ref a] [.int 0] h Q := by
        refine v_if_ne (t := 48) (q := 40) dX9_feed_37 (by decide) rfl (fun hc => absurd rfl hc) (fun _ => ?_)
        have after : V g mX9_feed (d + 12) 45 [.ref c, .int (nI j), .int (nI i), .ref (sp j), .ref a] [.int (if gF (xS X j) i then 1 else 0)] h Q := by
          by_cases hg : gF (xS X j) i = true
          · rw [if_pos hg]
            refine v_if_eq (t := 51) (q := 48) dX9_feed_45 (by decide) rfl (fun hc => absurd hc (by decide)) (fun _ => ring (Or.inr (Or.inr hg)))
          rw [if_neg hg]
          refine v_if_eq (t := 51) (q := 48) dX9_feed_45 (by decide) rfl (fun _ => ?_) (fun hc => absurd rfl hc)
          have hnr : ¬ (8 + j ≤ i ∨ (8 ≤ i ∧ isW (xS X (i - 8)) = true) ∨ gF (xS X j) i = true) := by
            rintro (z | z | z)
            · exact hr1 z
            · have := k1 z.1
              rw [z.2] at this
              cases this
            · exact hg z
          rw [if_neg hnr] at hQ
          have go55 : V g mX9_feed (d + 12) 55 [.ref c, .int (nI j), .int (nI i), .ref (sp j), .ref a] [.int (gI (xS X j) 4)] h Q := by
            by_cases h4 : 0 < gI (xS X j) 4
            · rw [if_pos h4] at hQ
              refine v_if_le (t := 61) (q := 58) dX9_feed_55 (by decide) rfl (fun hc => absurd hc (Int32.not_le.mpr h4)) (fun _ => ?_)
              refine v_bipush (q := 60) (v := -4) dX9_feed_58 rfl (by decide) ?_
              refine v_iret dX9_feed_60 rfl ?_
              exact hQ h ow us uz sp hM hI (Fr.rf h) (Lg.rf h us uz X)
            rw [if_neg h4] at hQ
            refine v_if_le (t := 61) (q := 58) dX9_feed_55 (by decide) rfl (fun _ => ?_) (fun hc => absurd (Int32.not_lt.mp h4) hc)
            refine v_ald0 (q := 62) dX9_feed_61 rfl rfl ?_
            refine v_ild1 (q := 63) dX9_feed_62 rfl ?_
            refine v_ild2 (q := 64) dX9_feed_63 rfl ?_
            refine v_callV (q := 67) (d' := d + 11) (av := [.int (nI j), .int (nI i)]) dX9_feed_64 rfl ok_X9_hasTooManyWays CL8 ml_X9_66 im_X9_hasTooManyWays se_X9_hasTooManyWays (by assumption) (by omega) rfl rfl (Nat.le_of_ble_eq_true rfl) ?_
            refine k_tooMany (d := d + 9) hM jm (by omega) (Bool.eq_false_iff.mpr hg) (fun h1 hM1 hF1 y1 y2 => ?_)
            by_cases htm : tooMany (fdN X j i) (fun s => isW (xS X s)) (xM X) = true
            · rw [if_pos htm] at hQ
              rw [if_pos htm]
              refine v_if_eq (t := 73) (q := 70) dX9_feed_67 (by decide) rfl (fun hc => absurd hc (by decide)) (fun _ => ?_)
              refine v_bipush (q := 72) (v := -6) dX9_feed_70 rfl (by decide) ?_
              refine v_iret dX9_feed_72 rfl ?_
              refine hQ h1 ow us uz sp hM1 hI hF1 ?_
              show Lg h us uz X h1 us uz X
              unfold Lg
              omega
            rw [if_neg htm] at hQ
            rw [if_neg htm]
            refine v_if_eq (t := 73) (q := 70) dX9_feed_67 (by decide) rfl (fun _ => ?_) (fun hc => absurd rfl hc)
            have hS1 := hM1.st jm
            have gd1 := hM1.2.2.2.2.2.2
            obtain ⟨hV2, fr2⟩ := hS1.set5 (f := i) (by omega) (by omega)
            have wf2 : Wf (sFI h1 5 (sp j) (fI h1 5 (sp j) ||| (1 : Int32) <<< (nI i &&& 31))) := Wf_same rfl rfl gd1.1
            have x1 : hs (sFI h1 5 (sp j) (fI h1 5 (sp j) ||| (1 : Int32) <<< (nI i &&& 31))) = hs h1 := rfl
            have x2 : hz (sFI h1 5 (sp j) (fI h1 5 (sp j) ||| (1 : Int32) <<< (nI i &&& 31))) = hz h1 := rfl
            have put : V g mX9_feed (d + 12) 85 [.ref c, .int (nI j), .int (nI i), .ref (sp j), .ref a] [] (sFI h1 5 (sp j) (fI h1 5 (sp j) ||| (1 : Int32) <<< (nI i &&& 31))) Q := by
              generalize sFI h1 5 (sp j) (fI h1 5 (sp j) ||| (1 : Int32) <<< (nI i &&& 31)) = h2 at *
              have hL2 : LogV h2 ow lg (xR X) := hM1.2.2.2.2.2.1.fr gd1.1 fr2 (by unfold tL tP; omega)
              have hM2 := hM1.stage jm (fr2.mono (tP_SS j)) wf2 hV2 hL2 ⟨[], (List.append_nil _).symm⟩
              rw [upR_id, upR_id] at hM2
              have hF2 : Fr ow ow CS h h2 := hF1.tr ((fr2.mono (tP_SS j)).mono (fun t ht => SS_CS (by omega) ht))
              have hI2 := hI.feed jm (show i < 8 + j by omega) k1 (Bool.eq_false_iff.mpr htm)
              have c9 : hK h2 c = 9 := hM2.1.1
              have hC := hI2.2.2.1
              have hT := hI2.2.2.2.1
              refine v_ald0 (q := 86) dX9_feed_85 rfl rfl ?_
              refine v_callV (q := 89) (d' := d + 11) (av := []) dX9_feed_86 rfl ok_X9_settleMarks CL8 ml_X9_73 im_X9_settleMarks se_X9_settleMarks (by assumption) (by omega) rfl rfl (Nat.le_of_ble_eq_true rfl) ?_
              refine k_settle (d := d) hM2 hI2.1 hI2.2.1 (by omega) (fun h3 ow3 us3 uz3 X3 e3 hM3 hX3 hB3 hC3 hF3 hL3 => ?_)
              have jm3 : j < xM X3 := by rw [hX3.2.2.2.2.1]; exact jm
              have hS3 := hM3.st jm3
              have f5 := hS3.1.2.2.2.2
              have eg : gF (xS X3 j) = gF (stFd (xS X j) i) := by
                rw [(hX3.2.2.2.2.2 j).1, xS_set]
              rw [eg] at f5
              have fin : V g mX9_feed (d + 12) 93 [.ref c, .int (nI j), .int (nI i), .ref (sp j), .ref a] [.int (nI (mskN (gF (stFd (xS X j) i)) 24))] h3 Q := by
                refine v_callS (q := 96) (d' := d + 11) (av := [.int (nI (mskN (gF (stFd (xS X j) i)) 24))]) dX9_feed_93 rfl ok_J6_bitCount_0f7a4 ml_X9_76 st_J6_bitCount_0f7a4 (by omega) rfl rfl (Nat.le_of_ble_eq_true rfl) ?_
                refine k_bitCount ?_
                rw [bitc_msk]
                refine v_iret dX9_feed_96 rfl ?_
                subst e3
                refine hQ h3 ow3 us3 uz3 sp hM3 (hI2.same hX3.2.2.2.2 hX3.1 hB3 hC3) (hF2.tr hF3) ?_
                have := hL3.lg hX3.2.2.2.2.1
                show Lg h us uz X h3 us3 uz3 (settleS (xSet X j (stFd (xS X j) i) (xR X)))
                unfold Lg at this ⊢
                have q1 : xM (xSet X j (stFd (xS X j) i) (xR X)) = xM X := rfl
                have q2 : xR (xSet X j (stFd (xS X j) i) (xR X)) = xR X := rfl
                rw [q1, q2] at this
                omega
              rcases hS3.tag.2 with k3 | k3
              · refine v_ald3 (q := 90) dX9_feed_89 rfl rfl ?_
                refine v_getI (q := 93) dX9_feed_90 rfl gf_X9_70_4 (by assumption) ?_
                rw [f5]
                exact fin
              · refine v_ald3 (q := 90) dX9_feed_89 rfl rfl ?_
                refine v_getI (q := 93) dX9_feed_90 rfl gf_X9_70_7 (by assumption) ?_
                rw [f5]
                exact fin
            rcases hS1.tag.2 with k3 | k3
            · refine v_ald3 (q := 74) dX9_feed_73 rfl rfl ?_
              refine v_dup (q := 75) dX9_feed_74 rfl rfl ?_
              refine v_getI (q := 78) dX9_feed_75 rfl gf_X9_70_4 (by assumption) ?_
              refine v_iconst (q := 79) (v := 1) dX9_feed_78 rfl (by decide) ?_
              refine v_ild2 (q := 80) dX9_feed_79 rfl ?_
              refine v_ishl (q := 81) dX9_feed_80 rfl ?_
              refine v_ior (q := 82) dX9_feed_81 rfl ?_
              refine v_putI (q := 85) dX9_feed_82 rfl pf_X9_70_4 (by assumption) rfl rfl ?_
              exact put
            · refine v_ald3 (q := 74) dX9_feed_73 rfl rfl ?_
              refine v_dup (q := 75) dX9_feed_74 rfl rfl ?_
              refine v_getI (q := 78) dX9_feed_75 rfl gf_X9_70_7 (by assumption) ?_
              refine v_iconst (q := 79) (v := 1) dX9_feed_78 rfl (by decide) ?_
              refine v_ild2 (q := 80) dX9_feed_79 rfl ?_
              refine v_ishl (q := 81) dX9_feed_80 rfl ?_
              refine v_ior (q := 82) dX9_feed_81 rfl ?_
              refine v_putI (q := 85) dX9_feed_82 rfl pf_X9_70_7 (by assumption) rfl rfl ?_
              exact put
          rcases kk with k3 | k3
          · refine v_ald3 (q := 52) dX9_feed_51 rfl rfl ?_
            refine v_getI (q := 55) dX9_feed_52 rfl gf_X9_63_4 (by assumption) ?_
            rw [f4]
            exact go55
          · refine v_ald3 (q := 52) dX9_feed_51 rfl rfl ?_
            refine v_getI (q := 55) dX9_feed_52 rfl gf_X9_63_7 (by assumption) ?_
            rw [f4]
            exact go55
        rcases kk with k3 | k3
        · refine v_ald3 (q := 41) dX9_feed_40 rfl rfl ?_
          refine v_ild2 (q := 42) dX9_feed_41 rfl ?_
          refine v_callV (q := 45) (d' := d + 11) (av := [.int (nI i)]) dX9_feed_42 rfl ok_X6_isFedBy CL4 ml_X9_59 im_X6_isFedBy se_X6_isFedBy_X4 (by assumption) (by omega) rfl rfl (Nat.le_of_ble_eq_true rfl) ?_
          exact k_fed (Or.inl k3) hS.1.2.2.2.2 (by omega) after
        · refine v_ald3 (q := 41) dX9_feed_40 rfl rfl ?_
          refine v_ild2 (q := 42) dX9_feed_41 rfl ?_
          refine v_callV (q := 45) (d' := d + 11) (av := [.int (nI i)]) dX9_feed_42 rfl ok_X6_isFedBy CL7 ml_X9_59 im_X6_isFedBy se_X6_isFedBy_X8 (by assumption) (by omega) rfl rfl (Nat.le_of_ble_eq_true rfl) ?_
          exact k_fed (Or.inr k3) hS.1.2.2.2.2 (by omega) after
      rcases k2 with k3 | k3
      · refine v_instNo (q := 37) dX9_feed_34 rfl CL5 cl_X9_41 (by decide) k3 ?_
        exact go37
      · refine v_instNo (q := 37) dX9_feed_34 rfl CL4 cl_X9_41 (by decide) k3 ?_
        exact go37
    refine v_callV (q := 11) (d' := d + 11) (av := [.int f]) dX9_feed_8 rfl ok_X9_sourceAt CL8 ml_X9_55 im_X9_sourceAt se_X9_sourceAt (by assumption) (by omega) rfl rfl (Nat.le_of_ble_eq_true rfl) ?_
    refine mv_sourceAt hM (fun i ei i8 => ?_) (fun i ei im => ?_) (fun hn => ?_)
    · exact rest i (po i) ei (by omega) (Or.inr ⟨fun z => by omega, Or.inl (hM.2.2.1 i i8).2.1⟩)
    · refine rest (8 + i) (sp i) ei (by omega) ?_
      rw [show 8 + i - 8 = i by omega]
      rcases (hM.st im).2 with ⟨w1, w2, _⟩ | ⟨w1, w2, _⟩
      · exact Or.inl ⟨by omega, w1, w2⟩
      · exact Or.inr ⟨fun _ => w1, Or.inr w2⟩
    · refine v_ast4 (q := 13) dX9_feed_11 rfl (by decide) rfl rfl ?_
      refine v_ald3 (q := 14) dX9_feed_13 rfl rfl ?_
      refine v_ifnull (r := some (sp j)) (t := 22) (q := 17) dX9_feed_14 (by decide) rfl (fun hc => by cases hc) (fun _ _ => ?_)
      refine v_ald4 (q := 19) dX9_feed_17 rfl rfl ?_
      refine v_ifnonnull (r := none) (t := 24) (q := 22) dX9_feed_19 (by decide) rfl (fun a ha => by cases ha) (fun _ => ?_)
      exact no _ _ (fun z => hn z.2)
  · refine v_ast3 (q := 6) dX9_feed_5 rfl (by decide) rfl rfl ?_
    refine v_ald0 (q := 7) dX9_feed_6 rfl rfl ?_
    refine v_ild2 (q := 8) dX9_feed_7 rfl ?_
    have fin : ∀ v : Value, isRf v = true → V g mX9_feed (d + 12) 11 [.ref c, .int s, .int f, .null, zz] [v] h Q := fun v hv => by
      refine v_ast4 (q := 13) dX9_feed_11 rfl (by decide) rfl hv ?_
      refine v_ald3 (q := 14) dX9_feed_13 rfl rfl ?_
      refine v_ifnull (r := none) (t := 22) (q := 17) dX9_feed_14 (by decide) rfl (fun _ => ?_) (fun a ha => by cases ha)
      exact no _ _ (fun z => hn z.1)
    refine v_callV (q := 11) (d' := d + 11) (av := [.int f]) dX9_feed_8 rfl ok_X9_sourceAt CL8 ml_X9_55 im_X9_sourceAt se_X9_sourceAt (by assumption) (by omega) rfl rfl (Nat.le_of_ble_eq_true rfl) ?_
    exact mv_sourceAt hM (fun i _ _ => fin _ rfl) (fun i _ _ => fin _ rfl) (fun _ => fin _ rfl)
end LA6
