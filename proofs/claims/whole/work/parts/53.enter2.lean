/-! 53: Windowed: enter, its ways -/
/-- what is asked of Q when an event has entered: the window is behind Z1 and ahead of Zb -/
def EnQ (g : Gl) (Q : Option Value → Hp → Prop) (h : Hp) (ow : Nat → Nat) (s p lg A q1 q2 how c k la al : Nat) (Z1 Zb : Zw) (ses : Bool) (ea : Nat) (mk b e0 : Int32) (v : Int64) (T : List Wd) (rows : List Rw) (sl ce : Nat) (D1 D2 : List Int64) (s1 c1 b1 s2 c2 b2 : Nat) : Prop :=
  ∀ h' ow' e' w' sl' ce' s1' c1' s2' c2',
    LnF g h' ow' s p lg A q1 q2 how c k la al e' (Z1 ++ (w', (finW s k how (entG ses s k rows T mk ea (entX ses b e0 v T) = true) (entRw ses s k rows T) (entX ses b e0 v T)).1) :: Zb) sl' ce' (finW s k how (entG ses s k rows T mk ea (entX ses b e0 v T) = true) (entRw ses s k rows T) (entX ses b e0 v T)).2 →
    HpL h' ow' (tD s) q1 (dueA (entC ses b e0 v T = true) mk k (wB (entX ses b e0 v T)) (wE (entX ses b e0 v T)) D1) s1' c1' (b1 + 1) →
    HpL h' ow' (tQ s) q2 (pasA (entC ses b e0 v T = true) mk k (wB (entX ses b e0 v T)) (wE (entX ses b e0 v T)) D2) s2' c2' (b2 + 1) →
    Fr ow ow' (S5 s k) h h' → PFl [24, 25, 26] p h h' → fI h' 24 p = fI h 24 p + 1 - nI T.length → fI h' 25 p = fI h 25 p + 1 →
    fI h' 26 p = finL s k (entG ses s k rows T mk ea (entX ses b e0 v T) = true) (entRw ses s k rows T) (entX ses b e0 v T) (if ses then fI h 26 p - nI (bksL s k rows T).length else fI h 26 p) →
    hs h' + sl + s1 + s2 + lgS rows.length ≤ hs h + sl' + s1' + s2' + lgS (finW s k how (entG ses s k rows T mk ea (entX ses b e0 v T) = true) (entRw ses s k rows T) (entX ses b e0 v T)).2.length →
    hz h' + ce + c1 + c2 + lgZ rows.length ≤ hz h + ce' + c1' + c2' + lgZ (finW s k how (entG ses s k rows T mk ea (entX ses b e0 v T) = true) (entRw ses s k rows T) (entX ses b e0 v T)).2.length → Q none h'
section L53
variable {g : Gl} {d : Nat} {h : Hp} {Q : Option Value → Hp → Prop} {ow : Nat → Nat} {s p lg A q1 q2 how c k la al e : Nat} {sl ce : Nat} {rows : List Rw}
theorem en163q {Z1 Zb : Zw} {w ea : Nat} {ses : Bool} {x : Wd} {T : List Wd} {key b e0 i took mk : Int32} {v : Int64} {u6 : Value} {D1 D2 : List Int64} {s1 c1 b1 s2 c2 b2 sl1 ce1 s1' c1' s2' c2' : Nat} {h1 : Hp} {ow1 : Nat → Nat} {rows1 : List Rw}
    (hQ : EnQ g Q h ow s p lg A q1 q2 how c k la al Z1 Zb ses ea mk b e0 v T rows sl ce D1 D2 s1 c1 b1 s2 c2 b2)
    (hF : LnF g h1 ow1 s p lg A q1 q2 how c k la al e (Z1 ++ (w, x) :: Zb) sl1 ce1 rows1) (er : rows1 = entRw ses s k rows T) (ex : adV x v = entX ses b e0 v T)
    (G1 : HpL h1 ow1 (tD s) q1 (dueA (entC ses b e0 v T = true) mk k (wB (entX ses b e0 v T)) (wE (entX ses b e0 v T)) D1) s1' c1' (b1 + 1)) (G2 : HpL h1 ow1 (tQ s) q2 (pasA (entC ses b e0 v T = true) mk k (wB (entX ses b e0 v T)) (wE (entX ses b e0 v T)) D2) s2' c2' (b2 + 1))
    (f1 : Fr ow ow1 (S5 s k) h h1) (p1 : PFl [24, 26] p h h1) (o24 : fI h1 24 p = fI h 24 p + 1 - nI T.length) (o26 : fI h1 26 p = if ses then fI h 26 p - nI (bksL s k rows T).length else fI h 26 p)
    (ht : took = 0 ∨ took = 1) (ht1 : took = 1 ↔ ses = true ∧ (bksL s k rows T).length ≠ 0)
    (hs6 : s < 16) (hk : k < 1000) (hh : how ≤ 5) (hr : RowOK s k rows1 x) (hl : (wVs x).length + 1 < 1000000) (hn : rows1.length + 1 < 192512) (fm : fI h 1 p = mk) (fe : fI h 22 p = nI ea) (hea : ea < 2147483648)
    (y1 : hs h1 + sl + s1 + s2 + lgS rows.length ≤ hs h + sl1 + s1' + s2' + lgS rows1.length + 8) (y2 : hz h1 + ce + c1 + c2 + lgZ rows.length ≤ hz h + ce1 + c1' + c2' + lgZ rows1.length + 2) :
    V g mX8_enter (d + 9) 163 [.ref p, .int key, .int b, .long v, zz, .int e0, u6, .int i, .ref w, .int took] [] h1 Q := by
  subst er
  have wf1 := hF.2.2.2.2.2.2.2.1
  refine en163 (d := d) hF hs6 hk hh hr hl hn ht ((p1.2.1 1 (by decide)).trans fm) ((p1.2.1 22 (by decide)).trans fe) hea (fun h2 ow2 sl2 ce2 gv _ hgv F2 f2 p2 l25 l26 y3 y4 => ?_)
  have eB : wE x = wE (entX ses b e0 v T) := by
    rw [← ex]
    rfl
  have eV : (wVs x).length + 1 = (wVs (entX ses b e0 v T)).length := by
    rw [← ex]
    rfl
  have hgv2 : gv ↔ entG ses s k rows T mk ea (entX ses b e0 v T) = true := by
    unfold entG
    rw [decide_eq_true_iff, hgv, ht1, eB, eV]
  rw [ex] at F2 l26 y3 y4
  rw [finW_iff hgv2] at F2 y3 y4
  rw [finL_iff hgv2] at l26
  have nD : ¬ S3 s k (tD s) := fun hh => by
    unfold S3 tD tg tP tL at hh
    omega
  have nQ : ¬ S3 s k (tQ s) := fun hh => by
    unfold S3 tQ tg tP tL at hh
    omega
  refine hQ h2 ow2 e w sl2 ce2 s1' c1' s2' c2' F2 (G1.fr wf1 f2 nD) (G2.fr wf1 f2 nQ) (f1.tr (f2.mono (fun t e => S3_S5 e))) ((p1.mono (fun f hf => by simp at hf; rcases hf with e | e <;> simp [e])).tr (p2.mono (fun f hf => by simp at hf; rcases hf with e | e <;> simp [e])) (fun _ h => h) (fun _ h => h)) ((p2.2.1 24 (by decide)).trans o24) (by rw [l25, p1.2.1 25 (by decide)]) (by rw [l26, o26]) (by omega) (by omega)
theorem ins_map {Z1 Z2 : Zw} {w : Nat} {x : Wd} : ((Z1 ++ Z2).map (·.1)).take Z1.length ++ w :: ((Z1 ++ Z2).map (·.1)).drop Z1.length = (Z1 ++ (w, x) :: Z2).map (·.1) := by
  have e1 : (Z1 ++ Z2).map (·.1) = Z1.map (·.1) ++ Z2.map (·.1) := by simp
  have e2 : (Z1.map (·.1)).length = Z1.length := by simp
  rw [e1, ← e2, List.take_left, List.drop_left]
  simp
/-- a new window, X has it -/
theorem en113 {Z1 Z2 : Zw} {ea : Nat} {ses : Bool} {b e0 mk : Int32} {v : Int64} {u8 : Value} {D1 D2 : List Int64} {s1 c1 b1 s2 c2 b2 : Nat} {X : Hp}
    (hQ : EnQ g Q h ow s p lg A q1 q2 how c k la al Z1 Z2 ses ea mk b e0 v [] rows sl ce D1 D2 s1 c1 b1 s2 c2 b2)
    (hF : LnF g h ow s p lg A q1 q2 how c k la al e (Z1 ++ Z2) sl ce rows) (hs6 : s < 16) (hk : k < 1000) (hh : how ≤ 5) (hne : ∀ z ∈ Z1 ++ Z2, wVs z.2 ≠ []) (hlen : (Z1 ++ Z2).length + 1 < 1000000) (hn : rows.length + 1 < 192512) (fm : fI h 1 p = mk) (fe : fI h 22 p = nI ea) (hea : ea < 2147483648) (hD1 : HpL h ow (tD s) q1 D1 s1 c1 b1) (hD2 : HpL h ow (tQ s) q2 D2 s2 c2 b2) (hb1 : b1 < 400000) (hb2 : b2 < 400000)
    (sX : ∀ a, a < hz h → sameAt h X a) (zX : hz X = hz h + 1) (hsX : hs X = hs h + 8) (wX : Wf X) (hwd : WdV X (owX ow h (tg s k)) (tg s k) how k (hz h) (b, e0, none, [])) (hnn : fP X 40 (hz h) = none) :
    V g mX8_enter (d + 9) 113 [.ref p, .int (nI k), .int b, .long v, zz, .int e0, .ref la, .int (nI Z1.length), u8, .int 0] [.ref (hz h)] X Q := by
  obtain ⟨k1, k2, k3, k4, hla, kl, klg, k5, k6, k7, wf⟩ := hF.kd
  have hS := hF.2.2.2.1
  have zp := hF.1.lt wf
  have zla : la < hz h := wf la (by rw [kl]; decide)
  have kal := hS.1.2.2.1.1
  have zal : al < hz h := wf al (by rw [kal]; decide)
  have ze : e < hz h := by
    by_cases he : hK h e = 0
    · rw [hS.1.e0 he]
      exact hF.2.2.2.2.2.2.2.2.1
    · exact wf e he
  have klX : hK X la = 2 := (sX la zla).1.trans kl
  have kalX : hK X al = 1 := (sX al zal).1.trans kal
  have lX : LNv g X la al e ((Z1 ++ Z2).map (·.1)) := hS.1.same (sX la zla) (sX al zal) (sX e ze) (fun w hw => (sX w (wf w (by rw [hS.1.2.2.2.1 w hw]; decide))).1)
  have n1 : la ≠ al ∧ la ≠ e := ⟨fun e' => by rw [e', kalX] at klX; omega, fun e' => by
    rcases hS.1.2.2.2.2 with q | q
    · rw [e', q] at kl
      omega
    · rw [e', q] at kl
      omega⟩
  have ll : ((Z1 ++ Z2).map (·.1)).length = (Z1 ++ Z2).length := by simp
  refine v_ast8 (q := 115) dX8_enter_113 rfl (by decide) rfl rfl ?_
  refine v_ald6 (q := 117) dX8_enter_115 rfl rfl ?_
  refine v_ild7 (q := 119) dX8_enter_117 rfl ?_
  refine v_ald8 (q := 121) dX8_enter_119 rfl rfl ?_
  refine v_callV (q := 124) (d' := d + 8) (av := [.int (nI Z1.length), .ref (hz h)]) dX8_enter_121 rfl ok_X1_insert CL1 ml_X8_162 im_X1_insert se_X1_insert (by assumption) (by omega) rfl rfl (Nat.le_of_ble_eq_true rfl) ?_
  refine k_laneInsert (d := d + 2) lX wX (by rw [ll, List.length_append]; omega) hwd.1 (by rw [ll]; omega) n1 (fun h1 e' i1 i2 i3 i4 i5 => ?_)
  rw [ins_map (x := (b, e0, none, []))] at i1
  obtain ⟨F1, f1, sp1, y1, y2⟩ := hF.ins hs6 hk hne sX zX wX hwd hnn i1 i2 i3 i4
  obtain ⟨F2, f2, p2⟩ := F1.setP (f := 24) (v := fI h1 24 p + 1) hs6 hk (by decide) (by decide)
  have kp1 : hK h1 p = 8 := F1.1.1
  refine v_ald0 (q := 125) dX8_enter_124 rfl rfl ?_
  refine v_dup (q := 126) dX8_enter_125 rfl rfl ?_
  refine v_getI (q := 129) dX8_enter_126 rfl gf_X8_97_7 (by assumption) ?_
  refine v_iconst (q := 130) (v := 1) dX8_enter_129 rfl (by decide) ?_
  refine v_iadd (q := 131) dX8_enter_130 rfl ?_
  refine v_putI (q := 134) dX8_enter_131 rfl pf_X8_97_7 (by assumption) rfl rfl ?_
  have z1 : hs (sFI h1 24 p (fI h1 24 p + 1)) = hs h1 := rfl
  have z2 : hz (sFI h1 24 p (fI h1 24 p + 1)) = hz h1 := rfl
  have o24 : fI (sFI h1 24 p (fI h1 24 p + 1)) 24 p = fI h 24 p + 1 := by rw [fi_eq, sp1.2.2.1 24]
  have pf2 : PFl [24] p h (sFI h1 24 p (fI h1 24 p + 1)) := ((PFl.of sp1).mono (fun _ h => absurd h List.not_mem_nil)).tr p2 (fun _ h => h) (fun _ h => h)
  have fr2 : Fr ow (owX ow h (tg s k)) (S3 s k) h (sFI h1 24 p (fI h1 24 p + 1)) := (f1.mono (fun t e => Or.inl e)).tr (f2.mono (fun t e => Or.inr (Or.inl e)))
  generalize sFI h1 24 p (fI h1 24 p + 1) = h2 at *
  have hx2 := F2.2.2.2.1.2.2.2.2.1 (hz h, (b, e0, none, [])) (by simp)
  have kw2 : hK h2 (hz h) = 7 := hx2.1
  have kp2 : hK h2 p = 8 := F2.1.1
  have wf2 := F2.2.2.2.2.2.2.2.1
  have nD : ¬ S3 s k (tD s) := fun hh => by
    unfold S3 tD tg tP tL at hh
    omega
  have nQ : ¬ S3 s k (tQ s) := fun hh => by
    unfold S3 tQ tg tP tL at hh
    omega
  have D1' := hD1.fr wf fr2 nD
  have D2' := hD2.fr wf fr2 nQ
  have x0 : fI h 24 p + 1 - nI ([] : List Wd).length = fI h 24 p + 1 := by rw [show nI ([] : List Wd).length = (0 : Int32) from rfl, Int32.sub_zero]
  have x26 : (if ses then fI h 26 p - nI (bksL s k rows []).length else fI h 26 p) = fI h 26 p := by
    rw [show nI (bksL s k rows []).length = (0 : Int32) from rfl, Int32.sub_zero]
    split <;> rfl
  have xr : entRw ses s k rows [] = rows := by
    unfold entRw
    split
    · exact List.append_nil rows
    · rfl
  refine v_ald0 (q := 135) dX8_enter_134 rfl rfl ?_
  refine v_ald8 (q := 137) dX8_enter_135 rfl rfl ?_
  refine v_callV (q := 140) (d' := d + 8) (av := [.ref (hz h)]) dX8_enter_137 rfl ok_X8_await CL7 ml_X8_166 im_X8_await se_X8_await (by assumption) (by omega) rfl rfl (Nat.le_of_ble_eq_true rfl) ?_
  refine k_await (d := d + 5) (k := k) (b := b) (e2 := e0) F2.1 wf2 kw2 hx2.2.2.1 hx2.2.2.2.1 hx2.2.2.2.2.1 ((pf2.2.1 1 (by decide)).trans fm) D1' D2' hb1 hb2 (fun hm h3 s1' c1' G1 g1 wf3 y3 y4 => ?_) (fun hm h3 s2' c2' G1 g1 wf3 y3 y4 => ?_)
  · have m1 : ¬ tg s k = tD s := by unfold tD tg; omega
    have m2 : ¬ tP s = tD s := by unfold tP tD; omega
    have m3 : ¬ tA s = tD s := by unfold tA tD; omega
    have m4 : ¬ tL = tD s := by unfold tL tD; omega
    have m0 : ¬ 0 = tD s := by unfold tD; omega
    have m5 : ¬ tQ s = tD s := by unfold tQ tD; omega
    obtain ⟨F3, sp3⟩ := F2.fr g1 wf3 m1 m2 m3 m4 m0
    refine v_goto (q := 163) dX8_enter_140 (by decide) ?_
    refine en163q (d := d) hQ F3 xr.symm rfl (s1' := s1') (c1' := c1') (s2' := s2) (c2' := c2) ?_ ?_ ((fr2.mono (fun t e => S3_S5 e)).tr (g1.mono (fun t e => Or.inr (Or.inr (Or.inr (Or.inl e)))))) ((pf2.mono (fun f hf => by simp at hf; simp [hf])).tr (PFl.of sp3) (fun _ h => h) (fun _ h => absurd h List.not_mem_nil)) ?_ ?_ (Or.inl rfl) ?_ hs6 hk hh (fun r hr => by cases hr) (by show (0 : Nat) + 1 < 1000000; decide) hn fm fe hea (by omega) (by omega)
    · show HpL h3 _ (tD s) q1 (dueA (true = true) mk k b e0 D1) s1' c1' (b1 + 1)
      unfold dueA
      rw [if_pos ⟨rfl, hm⟩]
      exact G1
    · show HpL h3 _ (tQ s) q2 (pasA (true = true) mk k b e0 D2) s2 c2 (b2 + 1)
      unfold pasA
      rw [if_neg (fun hh => hh.2 hm)]
      exact (D2'.fr wf2 g1 m5).mono (Nat.le_succ _)
    · rw [sp3.2.2.1 24, o24, x0]
    · rw [sp3.2.2.1 26, pf2.2.1 26 (by decide), x26]
    · exact ⟨fun e => absurd e (by decide), fun e => absurd rfl e.2⟩
  · have m1 : ¬ tg s k = tQ s := by unfold tQ tg; omega
    have m2 : ¬ tP s = tQ s := by unfold tP tQ; omega
    have m3 : ¬ tA s = tQ s := by unfold tA tQ; omega
    have m4 : ¬ tL = tQ s := by unfold tL tQ; omega
    have m0 : ¬ 0 = tQ s := by unfold tQ; omega
    have m5 : ¬ tD s = tQ s := by unfold tQ tD; omega
    obtain ⟨F3, sp3⟩ := F2.fr g1 wf3 m1 m2 m3 m4 m0
    refine v_goto (q := 163) dX8_enter_140 (by decide) ?_
    refine en163q (d := d) hQ F3 xr.symm rfl (s1' := s1) (c1' := c1) (s2' := s2') (c2' := c2') ?_ ?_ ((fr2.mono (fun t e => S3_S5 e)).tr (g1.mono (fun t e => Or.inr (Or.inr (Or.inr (Or.inr e)))))) ((pf2.mono (fun f hf => by simp at hf; simp [hf])).tr (PFl.of sp3) (fun _ h => h) (fun _ h => absurd h List.not_mem_nil)) ?_ ?_ (Or.inl rfl) ?_ hs6 hk hh (fun r hr => by cases hr) (by show (0 : Nat) + 1 < 1000000; decide) hn fm fe hea (by omega) (by omega)
    · show HpL h3 _ (tD s) q1 (dueA (true = true) mk k b e0 D1) s1 c1 (b1 + 1)
      unfold dueA
      rw [if_neg (fun hh => hm hh.2)]
      exact (D1'.fr wf2 g1 m5).mono (Nat.le_succ _)
    · show HpL h3 _ (tQ s) q2 (pasA (true = true) mk k b e0 D2) s2' c2' (b2 + 1)
      unfold pasA
      rw [if_pos ⟨rfl, hm⟩]
      exact G1
    · rw [sp3.2.2.1 24, o24, x0]
    · rw [sp3.2.2.1 26, pf2.2.1 26 (by decide), x26]
    · exact ⟨fun e => absurd e (by decide), fun e => absurd rfl e.2⟩
end L53
