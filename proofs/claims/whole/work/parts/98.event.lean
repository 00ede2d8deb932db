/-! 98: WindowMill: event -/
def xTold (X : Sg) (n : Nat) : Sg := (xM X, n, xR X, xP X, xI X, xS X)
def evS (X : Sg) (p : Nat) (key m : Int32) (v : Int64) : Sg := carryS 17 p key m v (xTold X (xT X + 1))
/-- what holds of a mill between calls -/
def MI (X : Sg) : Prop := GO X ∧ BI X ∧ tot camS X ≤ 4 * xT X ∧ xT X ≤ 3000 ∧ ∀ p, p < 8 → wz X 17 p ≤ 4
/-- the account of a call, new stages too -/
def Lg (h : Hp) (us uz : Nat → Nat) (X : Sg) (h' : Hp) (us' uz' : Nat → Nat) (X' : Sg) : Prop :=
  hs h' + fb_sm us (xM X) + lgS (xR X).length + 1100 * xM X ≤ hs h + fb_sm us' (xM X') + lgS (xR X').length + 1100 * xM X' ∧ hz h' + fb_sm uz (xM X) + lgZ (xR X).length + 10 * xM X ≤ hz h + fb_sm uz' (xM X') + lgZ (xR X').length + 10 * xM X'
theorem Led.lg {h h' : Hp} {us uz us' uz' : Nat → Nat} {X X' : Sg} (a : Led h us uz X h' us' uz' X') (e : xM X' = xM X) : Lg h us uz X h' us' uz' X' := by
  unfold Led at a
  unfold Lg
  rw [e]
  omega
theorem Lg.rf (h : Hp) (us uz : Nat → Nat) (X : Sg) : Lg h us uz X h us uz X := ⟨Nat.le_refl _, Nat.le_refl _⟩
theorem Lg.tr {h h1 h2 : Hp} {us uz us1 uz1 us2 uz2 : Nat → Nat} {X X1 X2 : Sg} (a : Lg h us uz X h1 us1 uz1 X1) (b : Lg h1 us1 uz1 X1 h2 us2 uz2 X2) : Lg h us uz X h2 us2 uz2 X2 := by
  unfold Lg at *
  omega
/-- a call has answered r, and the mill is X' -/
def CQ (g : Gl) (c lg SA ST WY : Nat) (po : Nat → Nat) (h : Hp) (ow us uz : Nat → Nat) (X : Sg) (Q : Option Value → Hp → Prop) (r : Int32) (X' : Sg) : Prop :=
  ∀ (h' : Hp) (ow' us' uz' sp' : Nat → Nat), MV g h' ow' c lg SA ST WY po sp' X' us' uz' → MI X' → Fr ow ow' CS h h' → Lg h us uz X h' us' uz' X' → Q (some (.int r)) h'
abbrev evB (p k m : Int32) : Prop := (0 ≤ p ∧ p ≤ 7) ∧ (0 ≤ k ∧ k ≤ 999) ∧ (0 ≤ m ∧ m ≤ 100000)
def doEvent (X : Sg) (p k m v : Int32) : Int32 × Sg :=
  if evB p k m then (if 3000 ≤ xT X then (-6, X) else (nI (xR (evS X p.toNatClampNeg k m v.toInt64)).length, evS X p.toNatClampNeg k m v.toInt64)) else (-1, X)
section L98
variable {g : Gl} {d : Nat} {h h' : Hp} {ow ow' us uz : Nat → Nat} {c lg SA ST WY : Nat} {po sp : Nat → Nat} {X : Sg} {Q : Option Value → Hp → Prop} {S : Nat → Prop}
/-- cells of the mill itself or of its ports have changed -/
theorem MV.mill {X' : Sg} (hM : MV g h ow c lg SA ST WY po sp X us uz) (f : Fr ow ow' S h h') (hS : ∀ t, S t → t = tM ∨ (100010 ≤ t ∧ t < 100018)) (wf' : Wf h') (eM : xM X' = xM X) (eR : xR X' = xR X) (eS : xS X' = xS X)
    (hc : hK h' c = 9 ∧ ow' c = tM ∧ fP h' 42 c = some SA ∧ fP h' 43 c = some ST ∧ fP h' 44 c = some WY ∧ fP h' 45 c = some lg ∧ fI h' 46 c = nI (xM X') ∧ fI h' 47 c = nI (xT X'))
    (hr : hK h' SA = 25 ∧ hN h' SA = 24 ∧ ow' SA = tM ∧ hK h' ST = 26 ∧ hN h' ST = 16 ∧ ow' ST = tM ∧ hK h' WY = 21 ∧ hN h' WY = 16 ∧ ow' WY = tM)
    (hp : ∀ f, f < 8 → aP h' SA f = some (po f) ∧ hK h' (po f) = 6 ∧ ow' (po f) = tO f ∧ fI h' 1 (po f) = xP X' f ∧ fI h' 2 (po f) = xI X' f)
    (hA : ∀ s, s < 16 → aP h' ST s = aP h ST s ∧ aP h' SA (8 + s) = aP h SA (8 + s)) : MV g h' ow' c lg SA ST WY po sp X' us uz := by
  obtain ⟨_, _, _, hSt, h16, hL, gd⟩ := hM
  have n0 : ¬ S 0 := fun q => by
    have := hS 0 q
    unfold tM at this
    omega
  have hL' : LogV h' ow' lg (xR X) := hL.fr gd.1 f (fun q => by
    have := hS _ q
    unfold tM tL at this
    omega)
  refine ⟨hc, hr, hp, fun s hs => ?_, by rw [eM]; exact h16, by rw [eR]; exact hL', gd.fr f n0 wf'⟩
  rw [eM, eS, eR]
  obtain ⟨q1, q2⟩ := hA s hs
  rw [q1, q2]
  refine ⟨fun hm => ?_, (hSt s hs).2⟩
  obtain ⟨r1, r2, r3⟩ := (hSt s hs).1 hm
  refine ⟨r1, r2, r3.other gd.1 f (fun t ht q => ?_) n0 wf' hL' ⟨[], (List.append_nil _).symm⟩⟩
  have := hS t q
  unfold tM at this
  unfold tgS at ht
  omega
theorem MV.lt (hM : MV g h ow c lg SA ST WY po sp X us uz) : c < hz h ∧ ∀ f, f < 8 → po f < hz h := by
  have gd := hM.2.2.2.2.2.2
  exact ⟨gd.1 c (by rw [hM.1.1]; decide), fun f hf => gd.1 _ (by rw [(hM.2.2.1 f hf).2.1]; decide)⟩
theorem MV.told {n : Nat} (hM : MV g h ow c lg SA ST WY po sp X us uz) : MV g (sFI h 47 c (nI n)) ow c lg SA ST WY po sp (xTold X n) us uz ∧ Fr ow ow CS h (sFI h 47 c (nI n)) := by
  have gd := hM.2.2.2.2.2.2
  obtain ⟨a1, a2, a3, a4, a5, a6, a7, a8⟩ := hM.1
  have fr : Fr ow ow (fun t => t = tM) h (sFI h 47 c (nI n)) := Fr.of0 (P := fun a => a = c) (Smo_sFI rfl) (fun a _ e => by rw [e]; exact a2)
  refine ⟨hM.mill fr (fun t e => Or.inl e) (Wf_same rfl rfl gd.1) rfl rfl rfl ⟨a1, a2, a3, a4, a5, a6, (fi_ne _ _ _ _ (by decide)).trans a7, fi_eq _ _ _ _⟩ hM.2.1 (fun f hf => ?_) (fun _ _ => ⟨rfl, rfl⟩), fr.mono (fun t e => by rw [e]; unfold CS tM; omega)⟩
  obtain ⟨p1, p2, p3, p4, p5⟩ := hM.2.2.1 f hf
  exact ⟨p1, p2, p3, (fi_ne _ _ _ _ (by decide)).trans p4, (fi_ne _ _ _ _ (by decide)).trans p5⟩
theorem MI.ev {X' : Sg} (h : MI X) {p : Nat} (hp : p < 8) (hX : KX (xTold X (xT X + 1)) X') (hB : BI X') (hC : tot camS X' ≤ tot camS (xTold X (xT X + 1)) + wz (xTold X (xT X + 1)) 17 p) (h3 : xT X < 3000) : MI X' := by
  obtain ⟨h1, h2, h4, h5, h6⟩ := h
  have sg1 : SG X (xTold X (xT X + 1)) := ⟨rfl, fun s => SGs.rf _⟩
  have sg := sg1.tr hX.sg
  have e1 : xT X' = xT X + 1 := hX.2.1
  have e2 : tot camS (xTold X (xT X + 1)) = tot camS X := rfl
  have e3 := wz_same sg1 17 p
  have e4 := h6 p hp
  refine ⟨h1.same sg, hB, ?_, ?_, fun q hq => ?_⟩
  · rw [e1]
    omega
  · rw [e1]
    omega
  · rw [wz_same sg]
    exact h6 q hq
/-- told grows, and an event is carried -/
theorem cy_told {p k : Nat} {m : Int32} {v : Int64} (hM : MV g h ow c lg SA ST WY po sp X us uz) (hI : MI X) (hp : p < 8) (hk : k < 1000) (m0 : 0 ≤ m.toInt) (m1 : m.toInt ≤ 100000) (h3 : xT X < 3000)
    (hQ : ∀ (h' : Hp) (ow' us' uz' : Nat → Nat) (X' : Sg), X' = evS X p (nI k) m v → MV g h' ow' c lg SA ST WY po sp X' us' uz' → MI X' → Fr ow ow' CS h h' → Led h us uz X h' us' uz' X' → xM X' = xM X → xT X' = xT X + 1 → Q none h') :
    Call g mX9_carry (d + 28) [.ref c, .int (nI p), .int (nI k), .int m, .long v] (sFI h 47 c (nI (xT X + 1))) Q := by
  obtain ⟨hM1, hF1⟩ := hM.told (n := xT X + 1)
  have sg1 : SG X (xTold X (xT X + 1)) := ⟨rfl, fun s => SGs.rf _⟩
  have hC : tot camS (xTold X (xT X + 1)) + wz (xTold X (xT X + 1)) 17 p ≤ 12000 := by
    rw [wz_same sg1]
    have := hI.2.2.1
    have := hI.2.2.2.2 p hp
    have : tot camS (xTold X (xT X + 1)) = tot camS X := rfl
    omega
  refine k_carry (d := d) 17 _ ow us uz _ p k m v Q hM1 (hI.1.same sg1) hI.2.1 (by omega) (Or.inl ⟨hp, Nat.le_refl _⟩) hk m0 m1 hC (fun h' ow' us' uz' X' e hM' hX hB hC' hF hL => ?_)
  exact hQ h' ow' us' uz' X' e hM' (hI.ev hp hX hB hC' h3) (hF1.tr hF) hL hX.1 hX.2.1
theorem k_event {p k m v : Int32} (hM : MV g h ow c lg SA ST WY po sp X us uz) (hI : MI X) (hQ : CQ g c lg SA ST WY po h ow us uz X Q (doEvent X p k m v).1 (doEvent X p k m v).2) : Call g mX9_event (d + 29) [.ref c, .int p, .int k, .int m, .int v] h Q := by
  have a1 : hK h c = 9 := hM.1.1
  have a8 : fI h 47 c = nI (xT X) := hM.1.2.2.2.2.2.2.2
  have hT := hI.2.2.2.1
  refine Call.of [.ref c, .int p, .int k, .int m, .int v] (by decide) (Nat.le_of_ble_eq_true rfl) rfl ?_
  have no : ¬ evB p k m → V g mX9_event (d + 29) 28 [.ref c, .int p, .int k, .int m, .int v] [] h Q := fun hn => by
    have e : doEvent X p k m v = (-1, X) := if_neg hn
    rw [e] at hQ
    refine v_iconst (q := 29) (v := -1) dX9_event_28 rfl (by decide) ?_
    refine v_iret dX9_event_29 rfl ?_
    exact hQ h ow us uz sp hM hI (Fr.rf h) (Lg.rf h us uz X)
  refine v_ild1 (q := 1) dX9_event_0 rfl ?_
  refine v_callS (q := 4) (d' := d + 28) (av := [.int p]) dX9_event_1 rfl ok_X9_isPort ml_X9_95 st_X9_isPort (by omega) rfl rfl (Nat.le_of_ble_eq_true rfl) ?_
  refine k_isPort (d := d + 27) ?_
  by_cases h1 : 0 ≤ p ∧ p ≤ 7
  · rw [b01_t h1]
    refine v_if_eq (t := 28) (q := 7) dX9_event_4 (by decide) rfl (fun hc => absurd hc (by decide)) (fun _ => ?_)
    refine v_ild2 (q := 8) dX9_event_7 rfl ?_
    refine v_iconst (q := 9) (v := 0) dX9_event_8 rfl (by decide) ?_
    refine v_sipush (q := 12) (v := 999) dX9_event_9 rfl (by decide) ?_
    refine v_callS (q := 15) (d' := d + 28) (av := [.int k, .int 0, .int 999]) dX9_event_12 rfl ok_X9_isWithin ml_X9_82 st_X9_isWithin (by omega) rfl rfl (Nat.le_of_ble_eq_true rfl) ?_
    refine k_isWithin ?_
    by_cases h2 : 0 ≤ k ∧ k ≤ 999
    · rw [b01_t h2]
      refine v_if_eq (t := 28) (q := 18) dX9_event_15 (by decide) rfl (fun hc => absurd hc (by decide)) (fun _ => ?_)
      refine v_ild3 (q := 19) dX9_event_18 rfl ?_
      refine v_iconst (q := 20) (v := 0) dX9_event_19 rfl (by decide) ?_
      refine v_ldc (q := 22) dX9_event_20 rfl kc_X9_85 ?_
      refine v_callS (q := 25) (d' := d + 28) (av := [.int m, .int 0, .int 100000]) dX9_event_22 rfl ok_X9_isWithin ml_X9_82 st_X9_isWithin (by omega) rfl rfl (Nat.le_of_ble_eq_true rfl) ?_
      refine k_isWithin ?_
      by_cases h3 : 0 ≤ m ∧ m ≤ 100000
      · rw [b01_t h3]
        refine v_if_ne (t := 30) (q := 28) dX9_event_25 (by decide) rfl (fun _ => ?_) (fun hc => absurd hc (by decide))
        have hb : evB p k m := ⟨h1, h2, h3⟩
        refine v_ald0 (q := 31) dX9_event_30 rfl rfl ?_
        refine v_getI (q := 34) dX9_event_31 rfl gf_X9_98_8 (by assumption) ?_
        rw [a8]
        refine v_sipush (q := 37) (v := 3000) dX9_event_34 rfl (by decide) ?_
        by_cases h4 : 3000 ≤ xT X
        · refine v_icmp_lt (t := 43) (q := 40) dX9_event_37 (by decide) rfl (fun hc => absurd hc (show ¬ nI (xT X) < nI 3000 from nI_nlt h4 (by omega))) (fun _ => ?_)
          have e : doEvent X p k m v = (-6, X) := by
            unfold doEvent
            rw [if_pos hb, if_pos h4]
          rw [e] at hQ
          refine v_bipush (q := 42) (v := -6) dX9_event_40 rfl (by decide) ?_
          refine v_iret dX9_event_42 rfl ?_
          exact hQ h ow us uz sp hM hI (Fr.rf h) (Lg.rf h us uz X)
        · refine v_icmp_lt (t := 43) (q := 40) dX9_event_37 (by decide) rfl (fun _ => ?_) (fun hc => absurd (show nI (xT X) < nI 3000 from nI_lt (by omega) (by omega)) hc)
          obtain ⟨pn, hpn, rfl⟩ := nI_of (Int32.not_lt.mpr h1.1)
          obtain ⟨kn, hkn, rfl⟩ := nI_of (Int32.not_lt.mpr h2.1)
          have hp8 : pn < 8 := Classical.byContradiction fun q => absurd h1.2 (show ¬ nI pn ≤ nI 7 from nI_ge (by omega) hpn)
          have hk8 : kn < 1000 := Classical.byContradiction fun q => absurd h2.2 (show ¬ nI kn ≤ nI 999 from nI_ge (by omega) hkn)
          have m0 : 0 ≤ m.toInt := by
            have := h3.1
            rw [fa_le] at this
            exact this
          have m1 : m.toInt ≤ 100000 := by
            have := h3.2
            rw [fa_le] at this
            exact this
          have e : doEvent X (nI pn) (nI kn) m v = (nI (xR (evS X pn (nI kn) m v.toInt64)).length, evS X pn (nI kn) m v.toInt64) := by
            unfold doEvent
            rw [if_pos hb, if_neg h4, nI_clamp hpn]
          rw [e] at hQ
          refine v_ald0 (q := 44) dX9_event_43 rfl rfl ?_
          refine v_dup (q := 45) dX9_event_44 rfl rfl ?_
          refine v_getI (q := 48) dX9_event_45 rfl gf_X9_98_8 (by assumption) ?_
          refine v_iconst (q := 49) (v := 1) dX9_event_48 rfl (by decide) ?_
          rw [a8]
          refine v_iadd (q := 50) dX9_event_49 rfl ?_
          rw [nI_1]
          refine v_putI (q := 53) dX9_event_50 rfl pf_X9_98_8 (by assumption) rfl rfl ?_
          refine v_ald0 (q := 54) dX9_event_53 rfl rfl ?_
          refine v_ild1 (q := 55) dX9_event_54 rfl ?_
          refine v_ild2 (q := 56) dX9_event_55 rfl ?_
          refine v_ild3 (q := 57) dX9_event_56 rfl ?_
          refine v_ild4 (q := 59) dX9_event_57 rfl ?_
          refine v_i2l (q := 60) dX9_event_59 rfl ?_
          refine v_callV (q := 63) (d' := d + 28) (av := [.int (nI pn), .int (nI kn), .int m, .long v.toInt64]) dX9_event_60 rfl ok_X9_carry CL8 ml_X9_101 im_X9_carry se_X9_carry (by assumption) (by omega) rfl rfl (Nat.le_of_ble_eq_true rfl) ?_
          refine cy_told (d := d) hM hI hp8 hk8 m0 m1 (by omega) (fun h' ow' us' uz' X' eX hM' hI' hF hL eM eT => ?_)
          have kl := hM'.2.2.2.2.2.1.kd
          have k4 : hK h' lg = 4 := kl.1
          have c9 : hK h' c = 9 := hM'.1.1
          have c45 : fP h' 45 c = some lg := hM'.1.2.2.2.2.2.1
          refine v_ald0 (q := 64) dX9_event_63 rfl rfl ?_
          refine v_getR (q := 67) dX9_event_64 rfl gf_X9_28_8 (by assumption) (by assumption) ?_
          refine v_getI (q := 70) dX9_event_67 rfl gf_X9_105_3 (by assumption) ?_
          rw [kl.2.1]
          refine v_iret dX9_event_70 rfl ?_
          subst eX
          exact hQ h' ow' us' uz' sp hM' hI' hF (hL.lg eM)
      · rw [b01_f h3]
        refine v_if_ne (t := 30) (q := 28) dX9_event_25 (by decide) rfl (fun hc => absurd rfl hc) (fun _ => ?_)
        exact no (fun q => h3 q.2.2)
    · rw [b01_f h2]
      refine v_if_eq (t := 28) (q := 18) dX9_event_15 (by decide) rfl (fun _ => ?_) (fun hc => absurd rfl hc)
      exact no (fun q => h2 q.2.1)
  · rw [b01_f h1]
    refine v_if_eq (t := 28) (q := 7) dX9_event_4 (by decide) rfl (fun _ => ?_) (fun hc => absurd rfl hc)
    exact no (fun q => h1 q.1)
end L98
