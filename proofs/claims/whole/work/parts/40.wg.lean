/-! 40: Windowed: lanes, rows given and taken back -/
def tg (s k : Nat) : Nat := 1 + s * 1010 + k
def tP (s : Nat) : Nat := 1 + s * 1010 + 1000
def tA (s : Nat) : Nat := 1 + s * 1010 + 1001
def tD (s : Nat) : Nat := 1 + s * 1010 + 1002
def tQ (s : Nat) : Nat := 1 + s * 1010 + 1003
/-- of the object p only these int fields have changed -/
def PFl (fs : List Nat) (p : Nat) (h h' : Hp) : Prop := hK h' p = hK h p ∧ (∀ f, f ∉ fs → fI h' f p = fI h f p) ∧ ∀ f, fP h' f p = fP h f p
def WgC (h : Hp) (ow : Nat → Nat) (s p lg A q1 q2 : Nat) : Prop :=
  hK h p = 8 ∧ ow p = tP s ∧ fI h 12 p = nI s ∧ fP h 16 p = some lg ∧ fP h 17 p = some A ∧ fP h 18 p = some q1 ∧ fP h 19 p = some q2 ∧ hK h A = 24 ∧ hN h A = 1000 ∧ ow A = tA s
def cntR (Z : Zw) : Nat := Z.countP (fun z => (wR z.2).isSome)
def capE (h : Hp) (e : Nat) : Nat := if hK h e = 27 then hN h e else 0
def zN (Z : Zw) : Nat := (Z.map (fun z => (wVs z.2).length)).sum
def zC (h : Hp) (c : Nat) (Z : Zw) : Nat := (Z.map (fun z => 8 * (wVs z.2).length + c * (8 * lam (wVs z.2).length) + 2 * capO h (fP h 40 z.1))).sum
def zD (c : Nat) (Z : Zw) : Nat := (Z.map (fun z => 3 * (wVs z.2).length + c * lam (wVs z.2).length)).sum
def LCost (h : Hp) (e c : Nat) (Z : Zw) (sl ce : Nat) : Prop := sl ≤ 5 + 4 * capE h e + zC h c Z ∧ ce ≤ 2 + zD c Z ∧ 2 * capE h e ≤ 20 + 3 * zN Z
/-- the state as far as the lane of k and the log are concerned -/
def LnF (g : Gl) (h : Hp) (ow : Nat → Nat) (s p lg A q1 q2 how c k la al e : Nat) (Z : Zw) (sl ce : Nat) (rows : List Rw) : Prop :=
  WgC h ow s p lg A q1 q2 ∧ fI h 20 p = nI how ∧ aP h A k = some la ∧ LaneS g h ow (tg s k) how k la al e Z ∧ fI h 28 la = nI (cntR Z) ∧ LCost h e c Z sl ce ∧ LogV h ow lg rows ∧ Gd g h ow
theorem PFl.rf (fs : List Nat) (p : Nat) (h : Hp) : PFl fs p h h := ⟨rfl, fun _ _ => rfl, fun _ => rfl⟩
theorem PFl.tr {fs fs1 fs2 : List Nat} {p : Nat} {h h1 h2 : Hp} (x : PFl fs1 p h h1) (y : PFl fs2 p h1 h2) (a : ∀ f, f ∈ fs1 → f ∈ fs) (b : ∀ f, f ∈ fs2 → f ∈ fs) : PFl fs p h h2 := ⟨y.1.trans x.1, fun f hf => (y.2.1 f (fun q => hf (b f q))).trans (x.2.1 f (fun q => hf (a f q))), fun f => (y.2.2 f).trans (x.2.2 f)⟩
theorem PFl.mono {fs fs1 : List Nat} {p : Nat} {h h1 : Hp} (x : PFl fs1 p h h1) (a : ∀ f, f ∈ fs1 → f ∈ fs) : PFl fs p h h1 := ⟨x.1, fun f hf => x.2.1 f (fun q => hf (a f q)), x.2.2⟩
theorem PFl.of {p : Nat} {h h1 : Hp} (x : sameAt h h1 p) : PFl [] p h h1 := ⟨x.1, fun f _ => x.2.2.1 f, x.2.2.2.2.1⟩
section L40
variable {g : Gl} {d : Nat} {h : Hp} {Q : Option Value → Hp → Prop} {ow : Nat → Nat} {s p lg A q1 q2 how c k la al e : Nat} {sl ce : Nat} {rows : List Rw}
theorem WgC.on {h' : Hp} {ow' : Nat → Nat} {fs : List Nat} (x : WgC h ow s p lg A q1 q2) (y : PFl fs p h h') (hf : 12 ∉ fs) (hp : ow' p = ow p) (hA : ow' A = ow A) (k1 : hK h' A = hK h A) (k2 : hN h' A = hN h A) : WgC h' ow' s p lg A q1 q2 := by
  obtain ⟨x1, x2, x3, x4, x5, x6, x7, x8, x9, x10⟩ := x
  exact ⟨y.1.trans x1, hp.trans x2, (y.2.1 12 hf).trans x3, (y.2.2 16).trans x4, (y.2.2 17).trans x5, (y.2.2 18).trans x6, (y.2.2 19).trans x7, k1.trans x8, k2.trans x9, hA.trans x10⟩
theorem WgC.lt (x : WgC h ow s p lg A q1 q2) (wf : Wf h) : p < hz h ∧ A < hz h := ⟨wf p (by rw [x.1]; decide), wf A (by rw [x.2.2.2.2.2.2.2.1]; decide)⟩
theorem mod1000 {k : Nat} {r : Int32} (hk : k < 1000) (h : r.toInt = (nI k).toInt % (1000 : Int32).toInt) : r = nI k := by
  rw [fa_eq, h, nI_toInt (by omega)]
  have : (1000 : Int32).toInt = 1000 := by decide
  rw [this]
  omega
theorem k_laneOfE (k1 : hK h p = 8) (k2 : fP h 17 p = some A) (k3 : hK h A = 24) (k4 : hN h A = 1000) (hk : k < 1000) (hla : aP h A k = some la) (hQ : Q (some (.ref la)) h) : Call g mX8_laneOf (d + 5) [.ref p, .int (nI k)] h Q := by
  refine Call.of [.ref p, .int (nI k), zz] (by decide) (Nat.le_of_ble_eq_true rfl) rfl ?_
  refine v_ild1 (q := 1) dX8_laneOf_0 rfl ?_
  refine v_sipush (q := 4) (v := 1000) dX8_laneOf_1 rfl (by decide) ?_
  refine v_callS (q := 7) (d' := d + 4) (av := [.int (nI k), .int 1000]) dX8_laneOf_4 rfl ok_J9_floorMod_7cf53 ml_X8_216 st_J9_floorMod_7cf53 (by omega) rfl rfl (Nat.le_of_ble_eq_true rfl) ?_
  refine k_floorModI (by decide) (fun r hr => ?_)
  have e := mod1000 hk hr
  subst e
  refine v_ist2 (q := 8) dX8_laneOf_7 rfl (by decide) rfl ?_
  refine v_ald0 (q := 9) dX8_laneOf_8 rfl rfl ?_
  refine v_getR (q := 12) dX8_laneOf_9 rfl gf_X8_11_7 (by assumption) (by assumption) ?_
  refine v_ild2 (q := 13) dX8_laneOf_12 rfl ?_
  refine v_aald (q := 14) _ dX8_laneOf_13 rfl ⟨k3, by decide, by decide⟩ rfl (by omega) (by omega) ?_
  rw [hla]
  refine v_ifnonnull (t := 30) (q := 17) dX8_laneOf_14 (by decide) rfl ?_ ?_
  · intro a ea
    refine v_ald0 (q := 31) dX8_laneOf_30 rfl rfl ?_
    refine v_getR (q := 34) dX8_laneOf_31 rfl gf_X8_11_7 (by assumption) (by assumption) ?_
    refine v_ild2 (q := 35) dX8_laneOf_34 rfl ?_
    refine v_aald (q := 36) _ dX8_laneOf_35 rfl ⟨k3, by decide, by decide⟩ rfl (by omega) (by omega) ?_
    rw [hla]
    refine v_aret dX8_laneOf_36 rfl (Or.inl ⟨_, rfl⟩) rfl ?_
    exact hQ
  · intro ea
    cases ea
/-- takeBack, from where the row is in the log -/
theorem tb43 {w : Nat} (hw : hK h w = 7) (hkey : fI h 34 w = nI k) (k1 : hK h p = 8) (k2 : fP h 17 p = some A) (k3 : hK h A = 24) (k4 : hN h A = 1000) (hk : k < 1000) (hla : aP h A k = some la) (kl : hK h la = 2)
    (hQ : Q (some (.int 1)) (sFI (sFI (sFI h 38 w (-1)) 26 p (fI h 26 p - 1)) 28 la (fI h 28 la - 1))) : V g mX8_takeBack (d + 6) 43 [.ref p, .ref w] [] h Q := by
  refine v_ald1 (q := 44) dX8_takeBack_43 rfl rfl ?_
  refine v_iconst (q := 45) (v := -1) dX8_takeBack_44 rfl (by decide) ?_
  refine v_putI (q := 48) dX8_takeBack_45 rfl pf_X8_131_6 (by assumption) rfl rfl ?_
  refine v_ald0 (q := 49) dX8_takeBack_48 rfl rfl ?_
  refine v_dup (q := 50) dX8_takeBack_49 rfl rfl ?_
  refine v_getI (q := 53) dX8_takeBack_50 rfl gf_X8_208_7 (by assumption) ?_
  refine v_iconst (q := 54) (v := 1) dX8_takeBack_53 rfl (by decide) ?_
  refine v_isub (q := 55) dX8_takeBack_54 rfl ?_
  refine v_putI (q := 58) dX8_takeBack_55 rfl pf_X8_208_7 (by assumption) rfl rfl ?_
  refine v_ald0 (q := 59) dX8_takeBack_58 rfl rfl ?_
  refine v_ald1 (q := 60) dX8_takeBack_59 rfl rfl ?_
  refine v_getI (q := 63) dX8_takeBack_60 rfl gf_X8_194_6 (by assumption) ?_
  rw [show fI (sFI (sFI h 38 w (-1)) 26 p (fI (sFI h 38 w (-1)) 26 p - 1)) 34 w = nI k from hkey]
  refine v_callV (q := 66) (d' := d + 5) (av := [.int (nI k)]) dX8_takeBack_63 rfl ok_X8_laneOf CL7 ml_X8_149 im_X8_laneOf se_X8_laneOf (by assumption) (by omega) rfl rfl (Nat.le_of_ble_eq_true rfl) ?_
  refine k_laneOfE (d := d) (A := A) (la := la) k1 k2 k3 k4 hk hla ?_
  refine v_dup (q := 67) dX8_takeBack_66 rfl rfl ?_
  refine v_getI (q := 70) dX8_takeBack_67 rfl gf_X8_108_1 (by assumption) ?_
  refine v_iconst (q := 71) (v := 1) dX8_takeBack_70 rfl (by decide) ?_
  refine v_isub (q := 72) dX8_takeBack_71 rfl ?_
  refine v_putI (q := 75) dX8_takeBack_72 rfl pf_X8_108_1 (by assumption) rfl rfl ?_
  refine v_iconst (q := 76) (v := 1) dX8_takeBack_75 rfl (by decide) ?_
  refine v_zret dX8_takeBack_76 rfl rfl ?_
  exact hQ

def S3 (s k : Nat) : Nat → Prop := fun t => t = tg s k ∨ t = tP s ∨ t = tL
theorem LaneS.left {Z : Zw} {T : Nat} {v : Int32} (x : LaneS g h ow T how k la al e Z) (wf : Wf h) : LaneS g (sFI h 28 la v) ow T how k la al e Z := by
  have kl : hK h la = 2 := x.1.1
  have sm : ∀ a, a ≠ la → sameAt h (sFI h 28 la v) a := fun a ha => same_sFI ha
  have w := WsV.sameK (h' := sFI h 28 la v) (ow' := ow) x.ws wf (fun _ _ => rfl) (fun a _ ha => sm a (fun e => by rw [e, kl] at ha; omega))
  obtain ⟨⟨x1, x2, x3, x4, x5⟩, x6, x7, x8, _⟩ := x
  refine ⟨⟨x1, x2, x3.same (sm al (fun e => ?_)) (fun he => sm e (fun e' => ?_)), x4, x5⟩, x6, x7, x8, w⟩
  · have := x3.1
    rw [e, kl] at this
    omega
  · rw [e', kl] at he
    omega
theorem LnF.kd {Z : Zw} (x : LnF g h ow s p lg A q1 q2 how c k la al e Z sl ce rows) : hK h p = 8 ∧ fP h 17 p = some A ∧ hK h A = 24 ∧ hN h A = 1000 ∧ aP h A k = some la ∧ hK h la = 2 ∧ hK h lg = 4 ∧ fP h 16 p = some lg ∧ fI h 12 p = nI s ∧ fI h 20 p = nI how ∧ Wf h := by
  obtain ⟨⟨x1, x2, x3, x4, x5, x6, x7, x8, x9, x10⟩, y1, y2, y3, y4, y5, y6, y7⟩ := x
  exact ⟨x1, x5, x8, x9, y2, y3.1.1, y6.kd.1, x4, x3, y1, y7.1⟩
theorem LCost.fr {h' : Hp} {ow' : Nat → Nat} {S : Nat → Prop} {T : Nat} {Z : Zw} (x : LCost h e c Z sl ce) (y : LaneS g h ow T how k la al e Z) (gd : Gd g h ow) (f : Fr ow ow' S h h') (hT : ¬ S T) (h0 : ¬ S 0) : LCost h' e c Z sl ce := by
  obtain ⟨y1, y2, y3, y4, y5, y6⟩ := y
  have sm : ∀ a, hK h a ≠ 0 → ow a = T → sameAt h h' a := fun a ha e => f.2.2 a (gd.1 a ha) (e ▸ hT)
  have ec : capE h' e = capE h e := by
    by_cases he : hK h e = 0
    · have s := f.2.2 _ gd.2.1 (gd.2.2.1.symm ▸ h0)
      rw [← y1.e0 he] at s
      unfold capE
      rw [s.1, s.2.1]
    · have s := sm e he (y4 he)
      unfold capE
      rw [s.1, s.2.1]
  have ez : zC h' c Z = zC h c Z := by
    unfold zC
    congr 1
    refine List.map_congr_left (fun z hz => ?_)
    have hx := y5 z hz
    rw [(sm z.1 (by rw [hx.1]; decide) hx.2.1).2.2.2.2.1 40]
    match ht : fP h 40 z.1 with
    | none => rfl
    | some t =>
      have hr := hx.row ht
      show _ + 2 * hN h' t = _ + 2 * hN h t
      rw [(sm t (by rw [hr.1]; decide) hr.2).2.1]
  unfold LCost
  rw [ec, ez]
  exact x
theorem zC_upd {Z1 Z2 : Zw} {w : Nat} {x x' : Wd} (hv : wVs x' = wVs x) : zC h c (Z1 ++ (w, x') :: Z2) = zC h c (Z1 ++ (w, x) :: Z2) ∧ zD c (Z1 ++ (w, x') :: Z2) = zD c (Z1 ++ (w, x) :: Z2) ∧ zN (Z1 ++ (w, x') :: Z2) = zN (Z1 ++ (w, x) :: Z2) := by
  unfold zC zD zN
  simp only [List.map_append, List.map_cons, hv, and_self]
/-- the log has grown from h to h1; then the row of a window, and what is counted -/
theorem LnF.row {Z1 Z2 : Zw} {w : Nat} {x : Wd} {h1 : Hp} {ow1 : Nat → Nat} {rows1 : List Rw} {ro : Option Nat} {u m : Int32} (hF : LnF g h ow s p lg A q1 q2 how c k la al e (Z1 ++ (w, x) :: Z2) sl ce rows) (hs6 : s < 16) (hk : k < 1000)
    (f : Fr ow ow1 (fun t => t = tL) h h1) (l1 : LogV h1 ow1 lg rows1) (wf1 : Wf h1) (hm : m = nI (cntR (Z1 ++ (w, (wB x, wE x, ro, wVs x)) :: Z2))) :
    LnF g (sFI (sFI (sFI h1 38 w (rI ro)) 26 p u) 28 la m) ow1 s p lg A q1 q2 how c k la al e (Z1 ++ (w, (wB x, wE x, ro, wVs x)) :: Z2) sl ce rows1 ∧ Fr ow ow1 (S3 s k) h (sFI (sFI (sFI h1 38 w (rI ro)) 26 p u) 28 la m) ∧ PFl [26] p h (sFI (sFI (sFI h1 38 w (rI ro)) 26 p u) 28 la m) := by
  obtain ⟨x1, x2, x3, x4, x5, x6, x7, x8⟩ := hF
  have nT : ¬ tg s k = tL := by unfold tg tL; omega
  have nP : ¬ tP s = tL := by unfold tP tL; omega
  have nA : ¬ tA s = tL := by unfold tA tL; omega
  have n0 : ¬ (0 : Nat) = tL := by unfold tL; omega
  have nPg : tP s ≠ tg s k := by unfold tP tg; omega
  have nPA : tP s ≠ tA s := by unfold tP tA; omega
  have nAg : tA s ≠ tg s k := by unfold tA tg; omega
  have lt := x1.lt x8.1
  have hx := x4.2.2.2.2.1 (w, x) (List.mem_append_right _ List.mem_cons_self)
  have gd1 : Gd g h1 ow1 := x8.fr f n0 wf1
  have y4 : LaneS g h1 ow1 (tg s k) how k la al e (Z1 ++ (w, x) :: Z2) := x4.fr x8 f nT n0
  have y6 : LCost h1 e c (Z1 ++ (w, x) :: Z2) sl ce := x6.fr x4 x8 f nT n0
  have sp : sameAt h h1 p := f.2.2 p lt.1 (by rw [x1.2.1]; exact nP)
  have sA : sameAt h h1 A := f.2.2 A lt.2 (by rw [x1.2.2.2.2.2.2.2.2.2]; exact nA)
  have o1p : ow1 p = tP s := (f.2.1 p lt.1).trans x1.2.1
  have o1A : ow1 A = tA s := (f.2.1 A lt.2).trans x1.2.2.2.2.2.2.2.2.2
  have hx1 := y4.2.2.2.2.1 (w, x) (List.mem_append_right _ List.mem_cons_self)
  have kw : hK h1 w = 7 := hx1.1
  have kp : hK h1 p = 8 := sp.1.trans x1.1
  have kl : hK h1 la = 2 := y4.1.1
  have npw : p ≠ w := fun e => by rw [e, kw] at kp; omega
  have npl : p ≠ la := fun e => by rw [e, kl] at kp; omega
  have nlw : la ≠ w := fun e => by rw [e, kw] at kl; omega
  -- the window's row
  have hwd : WdV (sFI h1 38 w (rI ro)) ow1 (tg s k) how k w (wB x, wE x, ro, wVs x) := by
    obtain ⟨v1, v2, v3, v4, v5, v6, v7, v8, vs, y, v9, v10, o, v11, v12⟩ := hx1
    exact ⟨v1, v2, (fi_ne _ _ _ _ (by decide)).trans v3, (fi_ne _ _ _ _ (by decide)).trans v4, (fi_ne _ _ _ _ (by decide)).trans v5, (fi_ne _ _ _ _ (by decide)).trans v6, fi_eq _ _ _ _, v8, vs, ⟨y.1, (fi_ne _ _ _ _ (by decide)).trans y.2.1, rfl, y.2.2.2.1, y.2.2.2.2⟩, v9, v10, o, v11, v12⟩
  have z4 : LaneS g (sFI h1 38 w (rI ro)) ow1 (tg s k) how k la al e (Z1 ++ (w, (wB x, wE x, ro, wVs x)) :: Z2) := y4.upd gd1 (Smo_sFI (Or.inl rfl)) (fun _ _ => rfl) hwd (fun t ht => Or.inl ht)
  have gd2 : Gd g (sFI h1 38 w (rI ro)) ow1 := ⟨Wf_same rfl rfl gd1.1, gd1.2⟩
  have f2 : Fr ow1 ow1 (fun t => t = tP s) (sFI h1 38 w (rI ro)) (sFI (sFI h1 38 w (rI ro)) 26 p u) := Fr.of0 (P := fun a => a = p) (Smo_sFI rfl) (fun a _ e => e ▸ o1p)
  have z5 := z4.fr gd2 f2 (fun e => nPg e.symm) (by unfold tP; omega)
  have gd3 : Gd g (sFI (sFI h1 38 w (rI ro)) 26 p u) ow1 := ⟨Wf_same rfl rfl gd1.1, gd1.2⟩
  have z6 := z5.left (v := m) gd3.1
  have s3 : Smo (fun a => a = w ∨ a = p ∨ a = la) h1 (sFI (sFI (sFI h1 38 w (rI ro)) 26 p u) 28 la m) := (((Smo.rf h1).andFI (Or.inl (Or.inl rfl))).andFI (Or.inl (Or.inr (Or.inl rfl)))).andFI (Or.inl (Or.inr (Or.inr rfl)))
  have f3 : Fr ow1 ow1 (fun t => t = tg s k ∨ t = tP s) h1 (sFI (sFI (sFI h1 38 w (rI ro)) 26 p u) 28 la m) := Fr.of0 s3 (fun a _ ha => by
    rcases ha with e | e | e
    · exact Or.inl (e ▸ hx1.2.1)
    · exact Or.inr (e ▸ o1p)
    · exact Or.inl (e ▸ y4.2.1))
  have pf : PFl [26] p h (sFI (sFI (sFI h1 38 w (rI ro)) 26 p u) 28 la m) := ⟨sp.1, fun f hf => by
    rw [fi_na _ _ _ _ npl, fi_ne _ _ _ _ (fun e => hf (by rw [e]; exact List.mem_singleton.mpr rfl)), fi_na _ _ _ _ npw]
    exact sp.2.2.1 f, sp.2.2.2.2.1⟩
  refine ⟨⟨x1.on pf (by decide) (o1p.trans x1.2.1.symm) (o1A.trans x1.2.2.2.2.2.2.2.2.2.symm) sA.1 sA.2.1, (pf.2.1 20 (by decide)).trans x2, ?_, z6, ?_, ?_, l1.fr wf1 f3 (fun hh => hh.elim (fun e => nT e.symm) (fun e => nP e.symm)), ⟨Wf_same rfl rfl gd1.1, gd1.2⟩⟩, (f.mono (fun t e => Or.inr (Or.inr e))).tr (f3.mono (fun t e => e.elim Or.inl (fun e => Or.inr (Or.inl e)))), pf⟩
  · show aP h1 A k = some la
    rw [sA.2.2.2.2.2.2.2]
    exact x3
  · rw [fi_eq]
    exact hm
  · have zz := zC_upd (h := h1) (c := c) (Z1 := Z1) (Z2 := Z2) (w := w) (x := x) (x' := (wB x, wE x, ro, wVs x)) rfl
    unfold LCost at y6 ⊢
    rw [← zz.1, ← zz.2.1, ← zz.2.2] at y6
    exact y6
theorem cntR_some {Z1 Z2 : Zw} {w r : Nat} {b e2 : Int32} {v : List Int64} : cntR (Z1 ++ (w, (b, e2, some r, v)) :: Z2) = cntR (Z1 ++ (w, (b, e2, none, v)) :: Z2) + 1 := by
  unfold cntR
  simp only [List.countP_append, List.countP_cons, wR, Option.isSome_some, Option.isSome_none, ↓reduceIte, Bool.false_eq_true]
  omega
theorem rI_some {r : Nat} (h : r < 192512) : rI (some r) ≠ -1 := fun e => by
  have h1 : (nI r).toInt = (-1 : Int32).toInt := congrArg Int32.toInt e
  rw [nI_toInt (by omega)] at h1
  have h2 : (-1 : Int32).toInt = -1 := by decide
  omega
theorem rcode_back (s k : Nat) (b e2 : Int32) (y : Int64) : rcode (false, s, k, b, e2, y) ||| 1 = rcode (true, s, k, b, e2, y) := rfl
theorem k_takeBack {Z1 Z2 : Zw} {w : Nat} {x : Wd} (hF : LnF g h ow s p lg A q1 q2 how c k la al e (Z1 ++ (w, x) :: Z2) sl ce rows) (hs6 : s < 16) (hk : k < 1000) (hr : ∀ r, wR x = some r → ∃ y, rows[r]? = some (false, s, k, wB x, wE x, y)) (hn : rows.length < 192512)
    (hQ0 : wR x = none → Q (some (.int 0)) h)
    (hQ1 : ∀ r y h' ow', wR x = some r → rows[r]? = some (false, s, k, wB x, wE x, y) → LnF g h' ow' s p lg A q1 q2 how c k la al e (Z1 ++ (w, (wB x, wE x, none, wVs x)) :: Z2) sl ce (rows ++ [(true, s, k, wB x, wE x, y)]) → Fr ow ow' (S3 s k) h h' → PFl [26] p h h' → fI h' 26 p = fI h 26 p - 1 → hs h' + lgS rows.length ≤ hs h + lgS (rows.length + 1) → hz h' + lgZ rows.length ≤ hz h + lgZ (rows.length + 1) → Q (some (.int 1)) h') :
    Call g mX8_takeBack (d + 7) [.ref p, .ref w] h Q := by
  obtain ⟨k1, k2, k3, k4, hla, kl, klg, k5, k6, k7, wf⟩ := hF.kd
  have hx := hF.2.2.2.1.2.2.2.2.1 (w, x) (List.mem_append_right _ List.mem_cons_self)
  have kw : hK h w = 7 := hx.1
  have e38 : fI h 38 w = rI (wR x) := hx.2.2.2.2.2.2.1
  refine Call.of [.ref p, .ref w] (by decide) (Nat.le_of_ble_eq_true rfl) rfl ?_
  refine v_ald1 (q := 1) dX8_takeBack_0 rfl rfl ?_
  refine v_getI (q := 4) dX8_takeBack_1 rfl gf_X8_131_6 (by assumption) ?_
  refine v_iconst (q := 5) (v := -1) dX8_takeBack_4 rfl (by decide) ?_
  rw [e38]
  match hro : wR x with
  | none =>
    refine v_icmp_ne (t := 10) (q := 8) dX8_takeBack_5 (by decide) rfl (fun hc => absurd rfl hc) (fun _ => ?_)
    refine v_iconst (q := 9) (v := 0) dX8_takeBack_8 rfl (by decide) ?_
    refine v_zret dX8_takeBack_9 rfl rfl ?_
    exact hQ0 hro
  | some r =>
    obtain ⟨y, hy⟩ := hr r hro
    have hrl : r < rows.length := (List.getElem?_eq_some_iff.mp hy).1
    refine v_icmp_ne (t := 10) (q := 8) dX8_takeBack_5 (by decide) rfl (fun _ => ?_) (fun hc => absurd hc (rI_some (by omega)))
    refine v_ald0 (q := 11) dX8_takeBack_10 rfl rfl ?_
    refine v_getR (q := 14) dX8_takeBack_11 rfl gf_X8_49_7 (by assumption) (by assumption) ?_
    refine v_ald0 (q := 15) dX8_takeBack_14 rfl rfl ?_
    refine v_getR (q := 18) dX8_takeBack_15 rfl gf_X8_49_7 (by assumption) (by assumption) ?_
    refine v_ald1 (q := 19) dX8_takeBack_18 rfl rfl ?_
    refine v_getI (q := 22) dX8_takeBack_19 rfl gf_X8_131_6 (by assumption) ?_
    rw [e38, hro]
    refine v_callV (q := 25) (d' := d + 6) (av := [.int (nI r)]) dX8_takeBack_22 rfl ok_X3_codeAt CL3 ml_X8_209 im_X3_codeAt se_X3_codeAt (by assumption) (by omega) rfl rfl (Nat.le_of_ble_eq_true rfl) ?_
    refine k_codeV (d := d + 5) hF.2.2.2.2.2.2.1 hy ?_
    refine v_callS (q := 28) (d' := d + 6) (av := [.long (rcode (false, s, k, wB x, wE x, y))]) dX8_takeBack_25 rfl ok_X0_back ml_X8_212 st_X0_back (by omega) rfl rfl (Nat.le_of_ble_eq_true rfl) ?_
    refine k_back ?_
    refine v_ald0 (q := 29) dX8_takeBack_28 rfl rfl ?_
    refine v_getR (q := 32) dX8_takeBack_29 rfl gf_X8_49_7 (by assumption) (by assumption) ?_
    refine v_ald1 (q := 33) dX8_takeBack_32 rfl rfl ?_
    refine v_getI (q := 36) dX8_takeBack_33 rfl gf_X8_131_6 (by assumption) ?_
    rw [e38, hro]
    refine v_callV (q := 39) (d' := d + 6) (av := [.int (nI r)]) dX8_takeBack_36 rfl ok_X3_sumAt CL3 ml_X8_134 im_X3_sumAt se_X3_sumAt (by assumption) (by omega) rfl rfl (Nat.le_of_ble_eq_true rfl) ?_
    refine k_sumV (d := d + 5) hF.2.2.2.2.2.2.1 hy ?_
    rw [rcode_back]
    refine v_callV (q := 42) (d' := d + 6) (av := [.long (rcode (true, s, k, wB x, wE x, y)), .long y]) dX8_takeBack_39 rfl ok_X3_add CL3 ml_X8_205 im_X3_add se_X3_add (by assumption) (by omega) rfl rfl (Nat.le_of_ble_eq_true rfl) ?_
    refine k_logAddV (d := d + 5) (r := (true, s, k, wB x, wE x, y)) hF.2.2.2.2.2.2.1 wf hn rfl rfl (fun h1 l1 f1 wf1 c1 c2 => ?_)
    refine v_pop (q := 43) dX8_takeBack_42 rfl rfl ?_
    have nT : ¬ tg s k = tL := by unfold tg tL; omega
    have nP : ¬ tP s = tL := by unfold tP tL; omega
    have nA : ¬ tA s = tL := by unfold tA tL; omega
    have lt := hF.1.lt wf
    have sp : sameAt h h1 p := f1.2.2 p lt.1 (by rw [hF.1.2.1]; exact nP)
    have sA : sameAt h h1 A := f1.2.2 A lt.2 (by rw [hF.1.2.2.2.2.2.2.2.2.2]; exact nA)
    have sl : sameAt h h1 la := f1.2.2 la (wf la (by rw [kl]; decide)) (by rw [hF.2.2.2.1.2.1]; exact nT)
    have sw : sameAt h h1 w := f1.2.2 w (hx.lt wf) (by rw [hx.2.1]; exact nT)
    have hc := cntR_some (Z1 := Z1) (Z2 := Z2) (w := w) (r := r) (b := wB x) (e2 := wE x) (v := wVs x)
    have ex : x = (wB x, wE x, some r, wVs x) := by
      rw [← hro]
      rfl
    rw [← ex] at hc
    obtain ⟨r1, r2, r3⟩ := hF.row (ro := none) (u := fI h1 26 p - 1) (m := fI h1 28 la - 1) hs6 hk f1 l1 wf1 (by rw [sl.2.2.1 28, hF.2.2.2.2.1, hc]; exact nI_pred _)
    refine tb43 (d := d + 1) (k := k) (A := A) (la := la) (sw.1.trans kw) ((sw.2.2.1 34).trans hx.2.2.1) (sp.1.trans k1) ((sp.2.2.2.2.1 17).trans k2) (sA.1.trans k3) (sA.2.1.trans k4) hk (by rw [sA.2.2.2.2.2.2.2]; exact hla) (sl.1.trans kl) ?_
    have npl : p ≠ la := fun e => by rw [e, kl] at k1; omega
    refine hQ1 r y _ _ hro hy r1 r2 r3 ?_ c1 c2
    rw [fi_na _ _ _ _ npl, fi_eq, sp.2.2.1 26]
end L40
