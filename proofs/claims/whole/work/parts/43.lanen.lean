/-! 43: Windowed: a new lane -/
def laH (g : Gl) (h : Hp) : Hp := sFP (sFP (sFI (nObj (nObj h 2 2) 1 3) 48 (hz (nObj h 2 2)) 0) 49 (hz (nObj h 2 2)) (some g.2.2.2.2.1)) 27 (hz h) (some (hz (nObj h 2 2)))
theorem nw_X8_9 : NW RX8 9 1 2 := ⟨RX1, TX1, tyX1, CL1, tm 160 (by decide +kernel) rfl, tm 358 (by decide +kernel) rfl, tm 58 (by decide +kernel) rfl⟩
section L43
variable {g : Gl} {d : Nat} {h : Hp} {Q : Option Value → Hp → Prop} {ow : Nat → Nat} {s p lg A q1 q2 how c k la al e : Nat} {sl ce : Nat} {rows : List Rw}
theorem laH_same {a : Nat} (ha : a < hz h) : sameAt h (laH g h) a := by
  have n1 : a ≠ hz h := by omega
  have n2 : a ≠ hz h + 1 := by omega
  exact ((((same_nObj ha).tr (same_nObj (show a < hz h + 1 by omega))).tr (same_sFI n2)).tr (same_sFP n2)).tr (same_sFP n1)
theorem laH_kd : hK (laH g h) (hz h) = 2 ∧ hK (laH g h) (hz h + 1) = 1 ∧ fP (laH g h) 27 (hz h) = some (hz h + 1) ∧ fP (laH g h) 49 (hz h + 1) = some g.2.2.2.2.1 ∧ fI (laH g h) 50 (hz h + 1) = 0 ∧ fI (laH g h) 28 (hz h) = 0 ∧ hz (laH g h) = hz h + 2 ∧ hs (laH g h) = hs h + 5 := by
  refine ⟨?_, ?_, ?_, ?_, ?_, ?_, rfl, rfl⟩
  · show (if hz h = hz h + 1 then 1 else if hz h = hz h then 2 else _) = 2
    rw [if_neg (by omega), if_pos rfl]
  · show (if hz h + 1 = hz h + 1 then 1 else _) = 1
    rw [if_pos rfl]
  · exact fp_eq _ _ _ _
  · unfold laH
    rw [fp_ne _ _ _ _ (by decide)]
    exact fp_eq _ _ _ _
  · unfold laH
    rw [fI_sFP, fI_sFP, fi_ne _ _ _ _ (by decide)]
    exact if_pos rfl
  · unfold laH
    rw [fI_sFP, fI_sFP, fi_ne _ _ _ _ (by decide)]
    show (if hz h = hz h + 1 then (0 : Int32) else if hz h = hz h then 0 else _) = 0
    rw [if_neg (by omega), if_pos rfl]
theorem laH_wf (wf : Wf h) : Wf (laH g h) := Wf_same (h := nObj (nObj h 2 2) 1 3) rfl rfl (Wf_nObj (Wf_nObj wf))
theorem lnN29 {b : Nat} (k1 : hK h p = 8) (k2 : fP h 17 p = some A) (k3 : hK h A = 24) (k4 : hN h A = 1000) (hk : k < 1000) (kb : hK h b = 2) (hQ : Q (some (.ref b)) (sAP h A (va_up (aP h A) k (some b)))) : V g mX8_laneOf (d + 5) 29 [.ref p, .int (nI k), .int (nI k)] [.ref b, .int (nI k), .ref A] h Q := by
  refine v_aast (q := 30) k dX8_laneOf_29 rfl k3 ⟨_, _, _, _, "WindowMill$Lane", CL1, rfl, by decide, by decide, Or.inl rfl⟩ kb rfl (by omega) (by omega) ?_
  have kp' : hK (sAP h A (va_up (aP h A) k (some b))) p = 8 := k1
  have fp' : fP (sAP h A (va_up (aP h A) k (some b))) 17 p = some A := k2
  refine v_ald0 (q := 31) dX8_laneOf_30 rfl rfl ?_
  refine v_getR (q := 34) dX8_laneOf_31 rfl gf_X8_11_7 (by assumption) (by assumption) ?_
  refine v_ild2 (q := 35) dX8_laneOf_34 rfl ?_
  refine v_aald (q := 36) k dX8_laneOf_35 rfl ⟨k3, by decide, by decide⟩ rfl (show k < hN h A by omega) (show hN h A < 2147483648 by omega) ?_
  rw [show aP (sAP h A (va_up (aP h A) k (some b))) A k = some b by rw [aP_sAP, if_pos rfl]; exact if_pos rfl]
  refine v_aret dX8_laneOf_36 rfl (Or.inl ⟨_, rfl⟩) rfl ?_
  exact hQ
theorem k_laneOfN (k1 : hK h p = 8) (k2 : fP h 17 p = some A) (k3 : hK h A = 24) (k4 : hN h A = 1000) (hk : k < 1000) (hla : aP h A k = none) (wf : Wf h) (hQ : Q (some (.ref (hz h))) (sAP (laH g h) A (va_up (aP (laH g h) A) k (some (hz h))))) : Call g mX8_laneOf (d + 5) [.ref p, .int (nI k)] h Q := by
  have zA : A < hz h := wf A (by rw [k3]; decide)
  have zp : p < hz h := wf p (by rw [k1]; decide)
  have sA : sameAt h (laH g h) A := laH_same zA
  have sp : sameAt h (laH g h) p := laH_same zp
  have kd := (laH_kd (g := g) (h := h)).1
  refine Call.of [.ref p, .int (nI k), zz] (by decide) (Nat.le_of_ble_eq_true rfl) rfl ?_
  refine v_ild1 (q := 1) dX8_laneOf_0 rfl ?_
  refine v_sipush (q := 4) (v := 1000) dX8_laneOf_1 rfl (by decide) ?_
  refine v_callS (q := 7) (d' := d + 4) (av := [.int (nI k), .int 1000]) dX8_laneOf_4 rfl ok_J9_floorMod_7cf53 ml_X8_216 st_J9_floorMod_7cf53 (by omega) rfl rfl (Nat.le_of_ble_eq_true rfl) ?_
  refine k_floorModI (by decide) (fun r hr => ?_)
  have e := mod1000 hk hr
  subst e
  refine v_ist2 (q := 8) dX8_laneOf_7 rfl (by decide) rfl ?_
  refine v_ald0 (q := 9) dX8_laneOf_8 rfl rfl ?_
  refine v_getR (q := 12) dX8_laneOf_9 rfl gf_X8_11_7 (by assumption) (by assumption) ?_
  refine v_ild2 (q := 13) dX8_laneOf_12 rfl ?_
  refine v_aald (q := 14) _ dX8_laneOf_13 rfl ⟨k3, by decide, by decide⟩ rfl (by omega) (by omega) ?_
  rw [hla]
  refine v_ifnonnull (t := 30) (q := 17) dX8_laneOf_14 (by decide) rfl ?_ ?_
  · intro a ea
    cases ea
  · intro ea
    refine v_ald0 (q := 18) dX8_laneOf_17 rfl rfl ?_
    refine v_getR (q := 21) dX8_laneOf_18 rfl gf_X8_11_7 (by assumption) (by assumption) ?_
    refine v_ild2 (q := 22) dX8_laneOf_21 rfl ?_
    refine v_new (q := 25) dX8_laneOf_22 rfl nw_X8_9 ?_
    refine v_dup (q := 26) dX8_laneOf_25 rfl rfl ?_
    refine v_callIN (q := 29) (d' := d + 4) (av := []) dX8_laneOf_26 rfl ok_X1_init rfl rfl mn_X8_219 im_X1_init (by omega) rfl rfl (Nat.le_of_ble_eq_true rfl) ?_
    refine k_laneInit (d := d) (Wf_nObj wf) (if_pos rfl) ?_
    exact lnN29 (h := laH g h) (sp.1.trans k1) ((sp.2.2.2.2.1 17).trans k2) (sA.1.trans k3) (sA.2.1.trans k4) hk kd hQ
end L43
