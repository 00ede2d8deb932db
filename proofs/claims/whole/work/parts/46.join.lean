/-! 46: Windowed: join, one window after the other -/
def jn1 (a y : Wd) : Wd := (mnI (wB a) (wB y), mxI (wE a) (wE y), none, wVs a ++ wVs y)
def RowOK (s k : Nat) (rows : List Rw) (x : Wd) : Prop := ∀ r, wR x = some r → ∃ y, rows[r]? = some (false, s, k, wB x, wE x, y)
section L46
variable {g : Gl} {d : Nat} {h : Hp} {Q : Option Value → Hp → Prop} {ow : Nat → Nat} {s p lg A q1 q2 how c k la al e : Nat} {sl ce : Nat} {rows : List Rw}
theorem LnF.setP {Z : Zw} {f : Nat} {v : Int32} (hF : LnF g h ow s p lg A q1 q2 how c k la al e Z sl ce rows) (hs6 : s < 16) (hk : k < 1000) (f1 : 12 ≠ f) (f2 : 20 ≠ f) : LnF g (sFI h f p v) ow s p lg A q1 q2 how c k la al e Z sl ce rows ∧ Fr ow ow (fun t => t = tP s) h (sFI h f p v) ∧ PFl [f] p h (sFI h f p v) := by
  obtain ⟨x1, x2, x3, x4, x5, x6, x7, x8⟩ := hF
  have nT : ¬ tg s k = tP s := by unfold tP tg; omega
  have nL : ¬ tL = tP s := by unfold tP tL; omega
  have n0 : ¬ (0 : Nat) = tP s := by unfold tP; omega
  have fr : Fr ow ow (fun t => t = tP s) h (sFI h f p v) := Fr.of0 (P := fun a => a = p) (Smo_sFI rfl) (fun a _ e => e ▸ x1.2.1)
  have pf : PFl [f] p h (sFI h f p v) := ⟨rfl, fun f' hf => fi_ne _ _ _ _ (fun e => hf (by rw [e]; exact List.mem_singleton.mpr rfl)), fun _ => rfl⟩
  have npl : la ≠ p := fun e => by
    have h1 := x1.1
    rw [← e, x4.1.1] at h1
    omega
  exact ⟨⟨x1.on pf (fun e => f1 (List.mem_singleton.mp e)) rfl rfl rfl rfl, (fi_ne _ _ _ _ f2).trans x2, x3, x4.fr x8 fr nT n0, (fi_na _ _ _ _ npl).trans x5, x6.fr x4 x8 fr nT n0, x7.fr x8.1 fr nL, ⟨Wf_same rfl rfl x8.1, x8.2⟩⟩, fr, pf⟩
theorem del_two {Z1 Z2 : Zw} {w q : Nat} {x x' y : Wd} : ((Z1 ++ (w, x) :: (q, y) :: Z2).map (·.1)).take (Z1.length + 1) ++ ((Z1 ++ (w, x) :: (q, y) :: Z2).map (·.1)).drop (Z1.length + 1 + 1) = (Z1 ++ (w, x') :: Z2).map (·.1) := by
  have e1 : (Z1 ++ (w, x) :: (q, y) :: Z2).map (·.1) = (Z1.map (·.1) ++ [w]) ++ q :: Z2.map (·.1) := by simp
  have e2 : (Z1.map (·.1) ++ [w]).length = Z1.length + 1 := by simp
  rw [e1, ← e2, List.take_left, List.drop_length_add_append]
  simp
theorem at_two {Z1 Z2 : Zw} {w : Nat} {x : Wd} : ((Z1 ++ (w, x) :: Z2).map (·.1))[Z1.length + 1]? = (Z2.map (·.1)).head? := by
  have e1 : (Z1 ++ (w, x) :: Z2).map (·.1) = (Z1.map (·.1) ++ [w]) ++ Z2.map (·.1) := by simp
  have e2 : (Z1.map (·.1) ++ [w]).length = Z1.length + 1 := by simp
  rw [e1, ← e2, List.getElem?_append_right (Nat.le_refl _), Nat.sub_self, List.head?_eq_getElem?]
theorem Call.ext {Y : Mth} {av : List Value} (x : Call g Y d av h (fun v h' => Ext h h' → Q v h')) : Call g Y d av h Q := by
  obtain ⟨v, h', hc, hq⟩ := x
  exact ⟨v, h', hc, hq hc.1⟩
theorem cat_rf (r : Option Nat) : (va_rf r).category = 1 := by cases r <;> rfl
theorem k_at {l : List Nat} {i : Nat} (hL : LNv g h la al e l) (hi : i < 2147483648) (hQ : Q (some (va_rf l[i]?)) h) : Call g mX1_at (d + 3) [.ref la, .int (nI i)] h Q := by
  refine k_laneAt hL ?_
  rw [if_neg (nI_pos hi), nI_clamp hi]
  exact hQ
theorem jn103 {Z1 Z2 : Zw} {w q m : Nat} {x : Wd} {b e0 wb we took : Int32} {u : Value} (hF : LnF g h ow s p lg A q1 q2 how c k la al e (Z1 ++ (w, x) :: Z2) sl ce rows) (hs6 : s < 16) (hk : k < 1000) (hl : Z1.length + 1 < 2147483648)
    (hQ : ∀ h', LnF g h' ow s p lg A q1 q2 how c k la al e (Z1 ++ (w, x) :: Z2) sl ce rows → Fr ow ow (fun t => t = tP s) h h' → PFl [24] p h h' → fI h' 24 p = fI h 24 p - 1 → hs h' = hs h → hz h' = hz h → V g mX8_join (d + 8) 54 [.ref p, .ref la, .int (nI Z1.length), .int b, .int e0, .ref w, .int wb, .int we, .int took, va_rf (Z2.map (·.1)).head?, .int (nI m)] [] h' Q) :
    V g mX8_join (d + 8) 103 [.ref p, .ref la, .int (nI Z1.length), .int b, .int e0, .ref w, .int wb, .int we, .int took, u, .int (nI (m + 1))] [] h Q := by
  have kp : hK h p = 8 := hF.1.1
  have kl : hK h la = 2 := hF.2.2.2.1.1.1
  obtain ⟨r1, r2, r3⟩ := hF.setP (f := 24) (v := fI h 24 p - 1) hs6 hk (by decide) (by decide)
  refine v_ald0 (q := 104) dX8_join_103 rfl rfl ?_
  refine v_dup (q := 105) dX8_join_104 rfl rfl ?_
  refine v_getI (q := 108) dX8_join_105 rfl gf_X8_97_7 (by assumption) ?_
  refine v_iconst (q := 109) (v := 1) dX8_join_108 rfl (by decide) ?_
  refine v_isub (q := 110) dX8_join_109 rfl ?_
  refine v_putI (q := 113) dX8_join_110 rfl pf_X8_97_7 (by assumption) rfl rfl ?_
  refine v_ald1 (q := 114) dX8_join_113 rfl rfl ?_
  refine v_ild2 (q := 115) dX8_join_114 rfl ?_
  refine v_iconst (q := 116) (v := 1) dX8_join_115 rfl (by decide) ?_
  refine v_iadd (q := 117) dX8_join_116 rfl ?_
  rw [show nI Z1.length + 1 = nI (Z1.length + 1) from nI_1 _]
  refine v_callV (q := 120) (d' := d + 7) (av := [.int (nI (Z1.length + 1))]) dX8_join_117 rfl ok_X1_at CL1 ml_X8_124 im_X1_at se_X1_at (by assumption) (by omega) rfl rfl (Nat.le_of_ble_eq_true rfl) ?_
  refine k_at (d := d + 4) r1.2.2.2.1.1 hl ?_
  rw [at_two]
  refine v_ast9 (q := 122) dX8_join_120 rfl (by decide) rfl (isRf_rf _) ?_
  refine v_inc10 (q := 125) dX8_join_122 rfl (by decide) (cat_rf _) rfl ?_
  rw [dec1]
  refine v_goto (q := 54) dX8_join_125 (by decide) ?_
  exact hQ _ r1 r2 r3 (fi_eq _ _ _ _) rfl rfl
theorem jn85 {Z1 Z2 : Zw} {w q m : Nat} {x y : Wd} {b e0 wb we took : Int32} (hF : LnF g h ow s p lg A q1 q2 how c k la al e (Z1 ++ (w, x) :: (q, y) :: Z2) sl ce rows) (hs6 : s < 16) (hk : k < 1000) (hc : c = 1) (hh : how ≤ 5) (n1 : wVs x ≠ []) (n2 : wVs y ≠ []) (r1 : wR x = none) (r2 : wR y = none) (hN1 : (wVs x).length + (wVs y).length < 1000000) (hl : Z1.length + 1 < 1000000)
    (hQ : ∀ h' ow' sl' ce', LnF g h' ow' s p lg A q1 q2 how c k la al e (Z1 ++ (w, jn1 x y) :: Z2) sl' ce' rows → Fr ow ow' (S3 s k) h h' → PFl [24] p h h' → fI h' 24 p = fI h 24 p - 1 → hs h' + sl ≤ hs h + sl' → hz h' + ce ≤ hz h + ce' → V g mX8_join (d + 8) 54 [.ref p, .ref la, .int (nI Z1.length), .int b, .int e0, .ref w, .int wb, .int we, .int took, va_rf (Z2.map (·.1)).head?, .int (nI m)] [] h' Q) :
    V g mX8_join (d + 8) 85 [.ref p, .ref la, .int (nI Z1.length), .int b, .int e0, .ref w, .int wb, .int we, .int took, .ref q, .int (nI (m + 1))] [] h Q := by
  obtain ⟨k1, k2, k3, k4, hla, kl, klg, k5, k6, k7, wf⟩ := hF.kd
  have hS := hF.2.2.2.1
  have hw := hS.2.2.2.2.1 (w, x) (by simp)
  have hq := hS.2.2.2.2.1 (q, y) (by simp)
  have kw : hK h w = 7 := hw.1
  have hpw := List.pairwise_cons.mp (List.pairwise_append.mp hS.2.2.2.2.2).2.1
  have dq := hpw.1 (q, y) List.mem_cons_self
  refine v_ald5 (q := 87) dX8_join_85 rfl rfl ?_
  refine v_ald9 (q := 89) dX8_join_87 rfl rfl ?_
  refine v_ald0 (q := 90) dX8_join_89 rfl rfl ?_
  refine v_getI (q := 93) dX8_join_90 rfl gf_X8_140_7 (by assumption) ?_
  rw [k7]
  refine v_callV (q := 96) (d' := d + 7) (av := [.ref q, .int (nI how)]) dX8_join_93 rfl ok_X7_absorb CL6 ml_X8_183 im_X7_absorb se_X7_absorb (by assumption) (by omega) rfl rfl (Nat.le_of_ble_eq_true rfl) ?_
  refine Call.ext ?_
  refine k_wAbsorb (d := d + 4) hw hq wf hh (fun e => dq.1 e.symm) dq.2 n1 n2 hN1 (fun h2 a1 a2 a3 a4 a5 a6 hx2 => ?_)
  have zla : la < hz h := wf la (by rw [kl]; decide)
  have cells : ∀ a, a < hz h → hK h a ≠ 7 → hK h a ≠ 22 → sameAt h h2 a := fun a ha m1 m2 => a2.2 a ha (fun hh => by
    rcases hh with hh | hh | hh
    · exact m1 (hh ▸ hw.1)
    · exact m2 (hw.row hh).1
    · exact m2 (hq.row hh).1)
  have sla := cells la zla (by rw [kl]; decide) (by rw [kl]; decide)
  have kal := hS.1.2.2.1.1
  have sal := cells al (wf al (by rw [kal]; decide)) (by rw [kal]; decide) (by rw [kal]; decide)
  have ke := hS.1.row27 (by simp)
  have se := cells e (wf e (by rw [ke]; decide)) (by rw [ke]; decide) (by rw [ke]; decide)
  have kl2 : hK h2 la = 2 := sla.1.trans kl
  have l2 : LNv g h2 la al e ((Z1 ++ (w, x) :: (q, y) :: Z2).map (·.1)) := hS.1.same sla sal se (fun v hv => by
    have h7 := hS.1.2.2.2.1 v hv
    rw [h7]
    by_cases hvw : v = w
    · rw [hvw]
      exact a1.1
    · have zv := wf v (by rw [h7]; decide)
      exact (a2.2 v zv (fun hh => by
        rcases hh with hh | hh | hh
        · exact hvw hh
        · have := (hw.row hh).1
          rw [h7] at this
          omega
        · have := (hq.row hh).1
          rw [h7] at this
          omega)).1.trans h7)
  refine v_ald1 (q := 97) dX8_join_96 rfl rfl ?_
  refine v_ild2 (q := 98) dX8_join_97 rfl ?_
  refine v_iconst (q := 99) (v := 1) dX8_join_98 rfl (by decide) ?_
  refine v_iadd (q := 100) dX8_join_99 rfl ?_
  rw [show nI Z1.length + 1 = nI (Z1.length + 1) from nI_1 _]
  refine v_callV (q := 103) (d' := d + 7) (av := [.int (nI (Z1.length + 1))]) dX8_join_100 rfl ok_X1_removeAt CL1 ml_X8_187 im_X1_removeAt se_X1_removeAt (by assumption) (by omega) rfl rfl (Nat.le_of_ble_eq_true rfl) ?_
  refine k_laneRemove (d := d + 4) l2 a3 (by simp) ⟨fun e => by rw [e, sal.1.trans kal] at kl2; omega, fun e' => by rw [e', se.1.trans ke] at kl2; omega⟩ (fun h3 b1 b2 b3 b4 b5 b6 => ?_)
  rw [del_two (x' := jn1 x y)] at b1
  have a1' : WdV h2 (owX ow h (tg s k)) (tg s k) how k w (jn1 x y) := by
    rw [r1] at a1
    exact a1
  have hs2 : hs h ≤ hs h2 := hx2.2.1
  obtain ⟨F3, f3, s3⟩ := hF.two hs6 hk hc n1 n2 r1 r2 rfl (by simp [jn1, wVs]) a1' a2 a4 a3 a5 a6 hs2 b1 b2 b3 b4 b5 b6
  refine jn103 (d := d) (q := q) F3 hs6 hk (by omega) (fun h' F4 f4 p4 o4 c1 c2 => hQ h' _ _ _ F4 ((f3.mono (fun t e => Or.inl e)).tr (f4.mono (fun t e => Or.inr (Or.inl e)))) (((PFl.of s3).mono (fun _ h => absurd h List.not_mem_nil)).tr p4 (fun _ h => h) (fun _ h => h)) ?_ ?_ ?_)
  · rw [o4, s3.2.2.1 24]
  · rw [c1]
    omega
  · have := a2.1
    rw [c2]
    omega
end L46
