/-! A0: WindowMill: window -/
def stW3 (S : Stg) (q l e : Int32) : Stg := (upR (upR (upR (gI S) 20 q) 21 l) 22 e, gV S, gF S, gL S)
abbrev winB (X : Sg) (s q l e : Int32) : Prop := (0 ≤ s ∧ s < nI (xM X)) ∧ (0 ≤ q ∧ q ≤ 5) ∧ (0 ≤ l ∧ l ≤ 100000) ∧ (0 ≤ e ∧ e ≤ 1000)
def doWindow (X : Sg) (s q l e : Int32) : Int32 × Sg :=
  if winB X s q l e then (if isW (xS X s.toNatClampNeg) then (if 0 < gI (xS X s.toNatClampNeg) 4 then (-4, X) else (1, xSet X s.toNatClampNeg (stW3 (xS X s.toNatClampNeg) q l e) (xR X))) else (-2, X)) else (-1, X)
section LA0
variable {g : Gl} {d : Nat} {h h' : Hp} {ow us uz : Nat → Nat} {c lg SA ST WY : Nat} {po sp : Nat → Nat} {X : Sg} {Q : Option Value → Hp → Prop}
theorem sm_empty (f : List Wd → Nat) (h0 : f [] = 0) {ln : Nat → List Wd} (he : ∀ k, k < 1000 → ln k = []) : sm f ln = 0 := by
  unfold sm
  rw [fb_sm_cong (g := fun _ => 0) (fun k hk => by rw [he k hk, h0]), fb_sm_const]
theorem WS.conf {s p A q1 q2 how ea how' ea' dr US UZ : Nat} {ses : Bool} {sp st lt lt' mk : Int32} {ln : Nat → List Wd} {rows : List Rw} (hW : WS g h ow s p lg A q1 q2 ses how ea sp st lt mk dr ln rows US UZ) (he : ∀ k, k < 1000 → ln k = []) (hs6 : s < 16)
    (pf : PFl [20, 21, 22] p h h') (fr : Fr ow ow (fun t => t = tP s) h h') (wf' : Wf h') (e20 : fI h' 20 p = nI how') (e21 : fI h' 21 p = lt') (e22 : fI h' 22 p = nI ea') : WS g h' ow s p lg A q1 q2 ses how' ea' sp st lt' mk dr ln rows US UZ := by
  obtain ⟨ac, D1, D2, s1, c1, b1, s2, c2, b2, ⟨hC, h20, hL, hLog, hD1, hD2, gd⟩, ⟨f1, f13, f14, f15, f21, f22, f23⟩, ⟨f24, f25, f26⟩, hI, hD, hb1, hb2, eS, eZ⟩ := hW
  have lt0 := hC.lt gd.1
  have n0 : ¬ (0 : Nat) = tP s := by unfold tP; omega
  have sA1 : sameAt h h' A := fr.2.2 A lt0.2 (by rw [hC.2.2.2.2.2.2.2.2.2]; unfold tA tP; omega)
  have noW : ∀ x P, ¬ InW ln x P := fun x P q => by
    obtain ⟨k, b, e, w, hk, _, _, hw, _⟩ := q
    rw [he k hk] at hw
    cases hw
  have hLf := hL.fr gd fr (fun j hj => by unfold tP tg; omega) n0 sA1.2.2.2.2.2.2.2
  refine ⟨ac, D1, D2, s1, c1, b1, s2, c2, b2, ⟨hC.on pf (by decide) (fr.2.1 p lt0.1) (fr.2.1 A lt0.2) sA1.1 sA1.2.1, e20, fun k hk => ?_, hLog.fr gd.1 fr (by unfold tL tP; omega), hD1.fr gd.1 fr (by unfold tD tP; omega), hD2.fr gd.1 fr (by unfold tQ tP; omega), gd.fr fr n0 wf'⟩, ⟨(pf.2.1 1 (by decide)).trans f1, (pf.2.1 13 (by decide)).trans f13, (pf.2.1 14 (by decide)).trans f14, (pf.2.1 15 (by decide)).trans f15, e21, e22, (pf.2.1 23 (by decide)).trans f23⟩, ⟨?_, ?_, ?_⟩, fun k hk => ?_, ⟨hD.1, hD.2.1, fun x hx => absurd (hD.2.2.1 x hx) (noW x _), fun x hx => absurd (hD.2.2.2.1 x hx) (noW x _), fun k hk w hw => by rw [he k hk] at hw; cases hw⟩, hb1, hb2, eS, eZ⟩
  · rcases hLf k hk with x | ⟨la, al, e, Z, x1, x2, x3, x4, x5⟩
    · exact Or.inl x
    · refine Or.inr ⟨la, al, e, Z, x1, ⟨x2.1, x2.2.1, x2.2.2.1, x2.2.2.2.1, fun z hz => ?_, x2.2.2.2.2.2⟩, x3, x4, x5⟩
      rw [he k hk] at x3
      have : Z = [] := List.map_eq_nil_iff.mp x3.symm
      rw [this] at hz
      cases hz
  · rw [pf.2.1 24 (by decide), f24, sm_empty _ rfl he, sm_empty _ rfl he]
  · rw [pf.2.1 25 (by decide), f25, sm_empty _ rfl he, sm_empty _ rfl he]
  · rw [pf.2.1 26 (by decide), f26]
  · rw [he k hk]
    exact ⟨fun x hx => (by cases hx), List.Pairwise.nil⟩
theorem lanes_empty {s p US UZ : Nat} {S : Stg} {rows : List Rw} (hV : StV g h ow s p lg S rows US UZ) (hw : isW S = true) (h0 : entS S = 0) : ∀ k, k < 1000 → gL S k = [] := by
  rcases hV.2 with ⟨_, _, _, A, q1, q2, w⟩ | ⟨b1, _⟩
  · obtain ⟨_, _, _, _, _, _, _, _, _, _, _, _, hI, _⟩ := w
    intro k hk
    have e : entS S = sm vN (gL S) := if_pos hw
    have h1 := sm_le vN (gL S) hk
    have h2 := vN_len (gL S k) (fun x hx => ((hI k hk).1 x hx).1)
    exact List.length_eq_zero_iff.mp (by omega)
  · rw [hw] at b1
    cases b1
theorem k_window {s q l e : Int32} (hM : MV g h ow c lg SA ST WY po sp X us uz) (hI : MI X) (hQ : CQ g c lg SA ST WY po h ow us uz X Q (doWindow X s q l e).1 (doWindow X s q l e).2) : Call g mX9_window (d + 1) [.ref c, .int s, .int q, .int l, .int e] h Q := by
  have a1 : hK h c = 9 := hM.1.1
  have h16 : xM X ≤ 16 := hM.2.2.2.2.1
  refine Call.of [.ref c, .int s, .int q, .int l, .int e, zz, zz] (by decide) (Nat.le_of_ble_eq_true rfl) rfl ?_
  have no : ∀ u : Value, ¬ winB X s q l e → V g mX9_window (d + 1) 43 [.ref c, .int s, .int q, .int l, .int e, u, zz] [] h Q := fun u hn => by
    have e : doWindow X s q l e = (-1, X) := if_neg hn
    rw [e] at hQ
    refine v_iconst (q := 44) (v := -1) dX9_window_43 rfl (by decide) ?_
    refine v_iret dX9_window_44 rfl ?_
    exact hQ h ow us uz sp hM hI (Fr.rf h) (Lg.rf h us uz X)
  refine v_ald0 (q := 1) dX9_window_0 rfl rfl ?_
  refine v_ild1 (q := 2) dX9_window_1 rfl ?_
  refine v_callV (q := 5) (d' := d) (av := [.int s]) dX9_window_2 rfl ok_X9_stageAt CL8 ml_X9_51 im_X9_stageAt se_X9_stageAt (by assumption) (by omega) rfl rfl (Nat.le_of_ble_eq_true rfl) ?_
  refine mv_stageAt hM (fun j hj jm => ?_) (fun hn => ?_)
  · subst hj
    have hS := hM.st jm
    refine v_ast5 (q := 7) dX9_window_5 rfl (by decide) rfl rfl ?_
    refine v_ald5 (q := 9) dX9_window_7 rfl rfl ?_
    refine v_ifnull (r := some (sp j)) (t := 43) (q := 12) dX9_window_9 (by decide) rfl (fun hc => by cases hc) (fun _ _ => ?_)
    refine v_ild2 (q := 13) dX9_window_12 rfl ?_
    refine v_iconst (q := 14) (v := 0) dX9_window_13 rfl (by decide) ?_
    refine v_iconst (q := 15) (v := 5) dX9_window_14 rfl (by decide) ?_
    refine v_callS (q := 18) (d' := d) (av := [.int q, .int 0, .int 5]) dX9_window_15 rfl ok_X9_isWithin ml_X9_82 st_X9_isWithin (by omega) rfl rfl (Nat.le_of_ble_eq_true rfl) ?_
    refine k_isWithin ?_
    by_cases h1 : ¬ (0 ≤ q ∧ q ≤ 5)
    · rw [b01_f h1]
      refine v_if_eq (t := 43) (q := 21) dX9_window_18 (by decide) rfl (fun _ => ?_) (fun hc => absurd rfl hc)
      exact no _ (fun z => h1 z.2.1)
    have h1 := Classical.not_not.mp h1
    rw [b01_t h1]
    refine v_if_eq (t := 43) (q := 21) dX9_window_18 (by decide) rfl (fun hc => absurd hc (by decide)) (fun _ => ?_)
    refine v_ild3 (q := 22) dX9_window_21 rfl ?_
    refine v_iconst (q := 23) (v := 0) dX9_window_22 rfl (by decide) ?_
    refine v_ldc (q := 25) dX9_window_23 rfl kc_X9_85 ?_
    refine v_callS (q := 28) (d' := d) (av := [.int l, .int 0, .int 100000]) dX9_window_25 rfl ok_X9_isWithin ml_X9_82 st_X9_isWithin (by omega) rfl rfl (Nat.le_of_ble_eq_true rfl) ?_
    refine k_isWithin ?_
    by_cases h2 : ¬ (0 ≤ l ∧ l ≤ 100000)
    · rw [b01_f h2]
      refine v_if_eq (t := 43) (q := 31) dX9_window_28 (by decide) rfl (fun _ => ?_) (fun hc => absurd rfl hc)
      exact no _ (fun z => h2 z.2.2.1)
    have h2 := Classical.not_not.mp h2
    rw [b01_t h2]
    refine v_if_eq (t := 43) (q := 31) dX9_window_28 (by decide) rfl (fun hc => absurd hc (by decide)) (fun _ => ?_)
    refine v_ild4 (q := 33) dX9_window_31 rfl ?_
    refine v_iconst (q := 34) (v := 0) dX9_window_33 rfl (by decide) ?_
    refine v_sipush (q := 37) (v := 1000) dX9_window_34 rfl (by decide) ?_
    refine v_callS (q := 40) (d' := d) (av := [.int e, .int 0, .int 1000]) dX9_window_37 rfl ok_X9_isWithin ml_X9_82 st_X9_isWithin (by omega) rfl rfl (Nat.le_of_ble_eq_true rfl) ?_
    refine k_isWithin ?_
    by_cases h3 : ¬ (0 ≤ e ∧ e ≤ 1000)
    · rw [b01_f h3]
      refine v_if_ne (t := 45) (q := 43) dX9_window_40 (by decide) rfl (fun hc => absurd rfl hc) (fun _ => ?_)
      exact no _ (fun z => h3 z.2.2.2)
    have h3 := Classical.not_not.mp h3
    rw [b01_t h3]
    refine v_if_ne (t := 45) (q := 43) dX9_window_40 (by decide) rfl (fun _ => ?_) (fun hc => absurd hc (by decide))
    have hb : winB X (nI j) q l e := ⟨⟨nI_pos' (by omega), nI_lt jm (by omega)⟩, h1, h2, h3⟩
    have eD : doWindow X (nI j) q l e = if isW (xS X j) then (if 0 < gI (xS X j) 4 then (-4, X) else (1, xSet X j (stW3 (xS X j) q l e) (xR X))) else (-2, X) := by
      unfold doWindow
      rw [if_pos hb, nI_clamp (by omega)]
    rw [eD] at hQ
    refine v_ald5 (q := 47) dX9_window_45 rfl rfl ?_
    rcases hS.2 with ⟨w1, w2, hO, A, q1, q2, w3⟩ | ⟨w1, w2, _⟩
    · rw [if_pos w1] at hQ
      refine v_inst (q := 50) dX9_window_47 rfl CL7 cl_X9_41 w2 ?_
      refine v_if_eq (t := 63) (q := 53) dX9_window_50 (by decide) rfl (fun hc => absurd hc (by decide)) (fun _ => ?_)
      refine v_ald5 (q := 55) dX9_window_53 rfl rfl ?_
      refine v_cast (q := 58) dX9_window_55 rfl CL7 cl_X9_41 w2 ?_
      refine v_ast6 (q := 60) dX9_window_58 rfl (by decide) rfl rfl ?_
      refine v_goto (q := 66) dX9_window_60 (by decide) ?_
      refine v_ald5 (q := 68) dX9_window_66 rfl rfl ?_
      refine v_getI (q := 71) dX9_window_68 rfl gf_X9_63_7 (by assumption) ?_
      rw [hS.1.2.2.2.1]
      by_cases h4 : 0 < gI (xS X j) 4
      · rw [if_pos h4] at hQ
        refine v_if_le (t := 77) (q := 74) dX9_window_71 (by decide) rfl (fun hc => absurd hc (Int32.not_le.mpr h4)) (fun _ => ?_)
        refine v_bipush (q := 76) (v := -4) dX9_window_74 rfl (by decide) ?_
        refine v_iret dX9_window_76 rfl ?_
        exact hQ h ow us uz sp hM hI (Fr.rf h) (Lg.rf h us uz X)
      · rw [if_neg h4] at hQ
        refine v_if_le (t := 77) (q := 74) dX9_window_71 (by decide) rfl (fun _ => ?_) (fun hc => absurd (Int32.not_lt.mp h4) hc)
        have hb := hI.2.1.1 j jm w1
        have hc0 : camS (xS X j) = 0 := Classical.byContradiction fun z => h4 (by
          rw [hb.2.2.2.1]
          exact show nI 0 < nI _ from nI_lt (by omega) (by omega))
        have he0 := lanes_empty hS w1 (by omega)
        obtain ⟨qn, hqn, rfl⟩ := nI_of (Int32.not_lt.mpr h1.1)
        obtain ⟨en, hen, rfl⟩ := nI_of (Int32.not_lt.mpr h3.1)
        have hq5 : qn ≤ 5 := Classical.byContradiction fun z => absurd h1.2 (show ¬ nI qn ≤ nI 5 from nI_ge (by omega) hqn)
        have he1 : en ≤ 1000 := Classical.byContradiction fun z => absurd h3.2 (show ¬ nI en ≤ nI 1000 from nI_ge (by omega) hen)
        have l0 : 0 ≤ l.toInt := by
          have := h2.1
          rw [fa_le] at this
          exact this
        have l1 : l.toInt ≤ 100000 := by
          have := h2.2
          rw [fa_le] at this
          exact this
        have ht := hS.tag.1
        have gd := hM.2.2.2.2.2.2
        refine v_ald6 (q := 79) dX9_window_77 rfl rfl ?_
        refine v_ild2 (q := 80) dX9_window_79 rfl ?_
        refine v_putI (q := 83) dX9_window_80 rfl pf_X9_86_7 (by assumption) rfl rfl ?_
        refine v_ald6 (q := 85) dX9_window_83 rfl rfl ?_
        refine v_ild3 (q := 86) dX9_window_85 rfl ?_
        refine v_putI (q := 89) dX9_window_86 rfl pf_X9_89_7 (by assumption) rfl rfl ?_
        refine v_ald6 (q := 91) dX9_window_89 rfl rfl ?_
        refine v_ild4 (q := 93) dX9_window_91 rfl ?_
        refine v_putI (q := 96) dX9_window_93 rfl pf_X9_92_7 (by assumption) rfl rfl ?_
        have pf : PFl [20, 21, 22] (sp j) h (sFI (sFI (sFI h 20 (sp j) (nI qn)) 21 (sp j) l) 22 (sp j) (nI en)) := ⟨rfl, fun f hf => by
          simp only [List.mem_cons, List.not_mem_nil, or_false, not_or] at hf
          rw [fi_ne _ _ _ _ (fun z => hf.2.2 z), fi_ne _ _ _ _ (fun z => hf.2.1 z), fi_ne _ _ _ _ (fun z => hf.1 z)], fun _ => rfl⟩
        have fr : Fr ow ow (fun t => t = tP j) h (sFI (sFI (sFI h 20 (sp j) (nI qn)) 21 (sp j) l) 22 (sp j) (nI en)) := Fr.of0 (P := fun a => a = sp j) ((((Smo.rf (S := fun a => a = sp j) h).andFI (Or.inl rfl)).andFI (Or.inl rfl)).andFI (Or.inl rfl)) (fun a _ z => by rw [z]; exact ht)
        have g20 : fI (sFI (sFI (sFI h 20 (sp j) (nI qn)) 21 (sp j) l) 22 (sp j) (nI en)) 20 (sp j) = nI qn := by
          rw [fi_ne _ _ _ _ (by decide), fi_ne _ _ _ _ (by decide), fi_eq]
        have g21 : fI (sFI (sFI (sFI h 20 (sp j) (nI qn)) 21 (sp j) l) 22 (sp j) (nI en)) 21 (sp j) = l := by
          rw [fi_ne _ _ _ _ (by decide), fi_eq]
        have g22 : fI (sFI (sFI (sFI h 20 (sp j) (nI qn)) 21 (sp j) l) 22 (sp j) (nI en)) 22 (sp j) = nI en := fi_eq _ _ _ _
        have wf' : Wf (sFI (sFI (sFI h 20 (sp j) (nI qn)) 21 (sp j) l) 22 (sp j) (nI en)) := Wf_same (h := h) rfl rfl gd.1
        have z1 : hs (sFI (sFI (sFI h 20 (sp j) (nI qn)) 21 (sp j) l) 22 (sp j) (nI en)) = hs h := rfl
        have z2 : hz (sFI (sFI (sFI h 20 (sp j) (nI qn)) 21 (sp j) l) 22 (sp j) (nI en)) = hz h := rfl
        generalize sFI (sFI (sFI h 20 (sp j) (nI qn)) 21 (sp j) l) 22 (sp j) (nI en) = h' at *
        obtain ⟨B1, B2, B3, B4, B5, B6, B7, B8, B9, B10, B11, B12⟩ := hO.1
        have eH : sHow (stW3 (xS X j) (nI qn) l (nI en)) = qn := nI_clamp hqn
        have eE : sEa (stW3 (xS X j) (nI qn) l (nI en)) = en := nI_clamp hen
        have hW' := w3.conf (how' := qn) (ea' := en) (lt' := l) he0 B1 pf fr wf' g20 g21 g22
        have hV' : StV g h' ow j (sp j) lg (stW3 (xS X j) (nI qn) l (nI en)) (xR X) (us j) (uz j) := by
          refine ⟨⟨(pf.2.1 1 (by decide)).trans hS.1.1, (pf.2.1 2 (by decide)).trans hS.1.2.1, (pf.2.1 3 (by decide)).trans hS.1.2.2.1, (pf.2.1 4 (by decide)).trans hS.1.2.2.2.1, (pf.2.1 5 (by decide)).trans hS.1.2.2.2.2⟩, Or.inl ⟨w1, pf.1.trans w2, ⟨?_, ?_, ?_, hO.2.2.2.1, hO.2.2.2.2⟩, A, q1, q2, ?_⟩⟩
          · rw [eH, eE]
            exact ⟨B1, hq5, he1, B4, B5, B6, B7, B8, l0, l1, B11, B12⟩
          · rw [eH]
            rfl
          · rw [eE]
            rfl
          · rw [eH, eE]
            exact hW'
        have hL' : LogV h' ow lg (xR X) := hM.2.2.2.2.2.1.fr gd.1 fr (by unfold tL tP; omega)
        have hM' := hM.stage jm (fr.mono (tP_SS j)) wf' hV' hL' ⟨[], (List.append_nil _).symm⟩
        rw [upR_id, upR_id] at hM'
        obtain ⟨hB', hC'⟩ := hI.2.1.set (S := stW3 (xS X j) (nI qn) l (nI en)) (rows' := xR X) jm rfl rfl rfl (Nat.le_refl _) rfl (fun _ => ⟨rfl, rfl⟩)
        have hI' := hI.same (SG.set X j (stW3 (xS X j) (nI qn) l (nI en)) (xR X) ⟨rfl, rfl, rfl, rfl⟩) rfl hB' hC'
        refine v_iconst (q := 97) (v := 1) dX9_window_96 rfl (by decide) ?_
        refine v_iret dX9_window_97 rfl ?_
        refine hQ h' ow us uz sp hM' hI' ((fr.mono (tP_SS j)).mono (fun t ht => SS_CS (by omega) ht)) ?_
        unfold Lg
        show _ ≤ hs h + fb_sm us (xM X) + lgS (xR X).length + 1100 * xM X ∧ _ ≤ hz h + fb_sm uz (xM X) + lgZ (xR X).length + 10 * xM X
        omega
    · rw [if_neg (by rw [w1]; decide)] at hQ
      refine v_instNo (q := 50) dX9_window_47 rfl CL4 cl_X9_41 (by decide) w2 ?_
      refine v_if_eq (t := 63) (q := 53) dX9_window_50 (by decide) rfl (fun _ => ?_) (fun hc => absurd rfl hc)
      refine v_bipush (q := 65) (v := -2) dX9_window_63 rfl (by decide) ?_
      refine v_iret dX9_window_65 rfl ?_
      exact hQ h ow us uz sp hM hI (Fr.rf h) (Lg.rf h us uz X)
  · refine v_ast5 (q := 7) dX9_window_5 rfl (by decide) rfl rfl ?_
    refine v_ald5 (q := 9) dX9_window_7 rfl rfl ?_
    refine v_ifnull (r := none) (t := 43) (q := 12) dX9_window_9 (by decide) rfl (fun _ => ?_) (fun a ha => by cases ha)
    exact no _ (fun z => hn z.1)
end LA0
