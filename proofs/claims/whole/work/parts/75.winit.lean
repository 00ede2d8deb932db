/-! 75: Windowed: a new one -/
def lfH (h : Hp) (p f : Nat) : Hp := sFP (sFP (nArr (nObj h 3 2) 22 16) 29 (hz h) (some (hz (nObj h 3 2)))) f p (some (hz h))
def spW (kd a : Int32) : Int32 := if kd = 6 then a + 1 else a
def stW (kd a b : Int32) : Int32 := if 1 < (if kd = 5 then b else spW kd a) then (if kd = 5 then b else spW kd a) else 1
def wiH (h : Hp) (p : Nat) (s0 kd a b : Int32) (lg : Nat) : Hp := sFP (sFI (sFI (sFI (sFI h 12 p s0) 15 p (if kd = 6 then 1 else 0)) 13 p (spW kd a)) 14 p (stW kd a b)) 16 p (some lg)
section L75
variable {g : Gl} {d : Nat} {h : Hp} {Q : Option Value → Hp → Prop} {ow : Nat → Nat} {s p lg A q1 q2 f : Nat} {s0 kd a b : Int32}
theorem wi75 {ls5 : Value} (k1 : hK h p = 8) (f13 : fI h 13 p = spW kd a) (hQ : Q none (sFP (sFI h 14 p (stW kd a b)) 16 p (some lg))) : V g mX8_init (d + 3) 75 [.ref p, .int s0, .int kd, .int a, .int b, .ref lg] [] h Q := by
  have tail : ∀ x : Int32, x = (if kd = 5 then b else spW kd a) → V g mX8_init (d + 3) 91 [.ref p, .int s0, .int kd, .int a, .int b, .ref lg] [.int x, .int 1, .ref p] h Q := fun x hx => by
    refine v_callS (q := 94) (d' := d + 2) (av := [.int 1, .int x]) dX8_init_91 rfl ok_J9_max_7cf53 ml_X8_40 st_J9_max_7cf53 (by omega) rfl rfl (Nat.le_of_ble_eq_true rfl) ?_
    refine k_maxI ?_
    have ex : (if 1 < x then x else 1) = stW kd a b := by rw [hx]; rfl
    rw [ex]
    refine v_putFI (q := 97) dX8_init_94 rfl qf_X8_46_7 rfl k1 rfl rfl ?_
    refine v_ald0 (q := 98) dX8_init_97 rfl rfl ?_
    refine v_ald5 (q := 100) dX8_init_98 rfl rfl ?_
    refine v_putFP (q := 103) (x := some lg) dX8_init_100 rfl qf_X8_49_7 rfl k1 rfl rfl ?_
    refine v_vret dX8_init_103 rfl ?_
    exact hQ
  refine v_ald0 (q := 76) dX8_init_75 rfl rfl ?_
  refine v_iconst (q := 77) (v := 1) dX8_init_76 rfl (by decide) ?_
  refine v_ild2 (q := 78) dX8_init_77 rfl ?_
  refine v_iconst (q := 79) (v := 5) dX8_init_78 rfl (by decide) ?_
  by_cases h5 : kd = 5
  · refine v_icmp_ne (t := 87) (q := 82) dX8_init_79 (by decide) rfl (fun hc => absurd h5 hc) (fun _ => ?_)
    refine v_ild4 (q := 84) dX8_init_82 rfl ?_
    refine v_goto (q := 91) dX8_init_84 (by decide) ?_
    exact tail b (by rw [if_pos h5])
  · refine v_icmp_ne (t := 87) (q := 82) dX8_init_79 (by decide) rfl (fun _ => ?_) (fun hc => absurd hc h5)
    refine v_ald0 (q := 88) dX8_init_87 rfl rfl ?_
    refine v_getI (q := 91) dX8_init_88 rfl gf_X8_37_7 (by assumption) ?_
    rw [f13]
    exact tail _ (by rw [if_neg h5])
theorem wi37 (k1 : hK h p = 8) (hQ : Q none (wiH h p s0 kd a b lg)) : V g mX8_init (d + 3) 37 [.ref p, .int s0, .int kd, .int a, .int b, .ref lg] [] h Q := by
  unfold wiH at hQ
  refine v_ald0 (q := 38) dX8_init_37 rfl rfl ?_
  refine v_ild1 (q := 39) dX8_init_38 rfl ?_
  refine v_putFI (q := 42) dX8_init_39 rfl qf_X8_29_7 rfl k1 rfl rfl ?_
  refine v_ald0 (q := 43) dX8_init_42 rfl rfl ?_
  refine v_ild2 (q := 44) dX8_init_43 rfl ?_
  refine v_bipush (q := 46) (v := 6) dX8_init_44 rfl (by decide) ?_
  by_cases h6 : kd = 6
  · have e15 : (if kd = 6 then 1 else 0 : Int32) = 1 := if_pos h6
    have esp : spW kd a = a + 1 := if_pos h6
    rw [e15] at hQ
    refine v_icmp_ne (t := 53) (q := 49) dX8_init_46 (by decide) rfl (fun hc => absurd h6 hc) (fun _ => ?_)
    refine v_iconst (q := 50) (v := 1) dX8_init_49 rfl (by decide) ?_
    refine v_goto (q := 54) dX8_init_50 (by decide) ?_
    refine v_putFI (q := 57) dX8_init_54 rfl qf_X8_33_7 rfl k1 rfl rfl ?_
    have kp : hK (sFI (sFI h 12 p s0) 15 p 1) p = 8 := k1
    refine v_ald0 (q := 58) dX8_init_57 rfl rfl ?_
    refine v_ald0 (q := 59) dX8_init_58 rfl rfl ?_
    refine v_getI (q := 62) dX8_init_59 rfl gf_X8_33_7 (by assumption) ?_
    rw [fi_eq]
    refine v_if_eq (t := 71) (q := 65) dX8_init_62 (by decide) rfl (fun hc => absurd hc (by decide)) (fun _ => ?_)
    refine v_ild3 (q := 66) dX8_init_65 rfl ?_
    refine v_iconst (q := 67) (v := 1) dX8_init_66 rfl (by decide) ?_
    refine v_iadd (q := 68) dX8_init_67 rfl ?_
    refine v_goto (q := 72) dX8_init_68 (by decide) ?_
    refine v_putFI (q := 75) dX8_init_72 rfl qf_X8_37_7 rfl kp rfl rfl ?_
    rw [← esp]
    exact wi75 (ls5 := zz) (d := d) k1 (fi_eq _ _ _ _) hQ
  · have e15 : (if kd = 6 then 1 else 0 : Int32) = 0 := if_neg h6
    have esp : spW kd a = a := if_neg h6
    rw [e15] at hQ
    refine v_icmp_ne (t := 53) (q := 49) dX8_init_46 (by decide) rfl (fun _ => ?_) (fun hc => absurd hc h6)
    refine v_iconst (q := 54) (v := 0) dX8_init_53 rfl (by decide) ?_
    refine v_putFI (q := 57) dX8_init_54 rfl qf_X8_33_7 rfl k1 rfl rfl ?_
    have kp : hK (sFI (sFI h 12 p s0) 15 p 0) p = 8 := k1
    refine v_ald0 (q := 58) dX8_init_57 rfl rfl ?_
    refine v_ald0 (q := 59) dX8_init_58 rfl rfl ?_
    refine v_getI (q := 62) dX8_init_59 rfl gf_X8_33_7 (by assumption) ?_
    rw [fi_eq]
    refine v_if_eq (t := 71) (q := 65) dX8_init_62 (by decide) rfl (fun _ => ?_) (fun hc => absurd rfl hc)
    refine v_ild3 (q := 72) dX8_init_71 rfl ?_
    refine v_putFI (q := 75) dX8_init_72 rfl qf_X8_37_7 rfl kp rfl rfl ?_
    rw [esp] at hQ
    exact wi75 (ls5 := zz) (d := d) k1 ((fi_eq _ _ _ _).trans esp.symm) hQ
theorem lf_kp (k1 : hK h p = 8) (hp : p < hz h) : hK (lfH h p f) p = 8 := by
  show (if p = hz h + 1 then 22 else if p = hz h then 3 else hK h p) = 8
  rw [if_neg (by omega), if_neg (by omega)]
  exact k1
theorem wi15 (k1 : hK h p = 8) (hp : p < hz h) (wf : Wf h) (hQ : V g mX8_init (d + 3) 37 [.ref p, .int s0, .int kd, .int a, .int b, .ref lg] [] (lfH (lfH h p 18) p 19) Q) : V g mX8_init (d + 3) 15 [.ref p, .int s0, .int kd, .int a, .int b, .ref lg] [] h Q := by
  have kA : hK (nArr (nObj h 3 2) 22 16) p = 8 := by
    show (if p = hz h + 1 then 22 else if p = hz h then 3 else hK h p) = 8
    rw [if_neg (by omega), if_neg (by omega)]
    exact k1
  have k2 := lf_kp (f := 18) k1 hp
  have wf2 : Wf (lfH h p 18) := Wf_same (h := nArr (nObj h 3 2) 22 16) rfl rfl (Wf_nArr (Wf_nObj wf))
  have hp2 : p < hz (lfH h p 18) := by
    show p < hz h + 2
    omega
  refine v_ald0 (q := 16) dX8_init_15 rfl rfl ?_
  refine v_new (q := 19) dX8_init_16 rfl nw_X8_17 ?_
  refine v_dup (q := 20) dX8_init_19 rfl rfl ?_
  refine v_callIN (q := 23) (d' := d + 2) (av := []) dX8_init_20 rfl ok_X2_init rfl rfl mn_X8_19 im_X2_init (by omega) rfl rfl (Nat.le_of_ble_eq_true rfl) ?_
  refine k_lfInit (d := d + 1) (Wf_nObj wf) (if_pos rfl) ?_
  refine v_putFP (q := 26) (x := some (hz h)) dX8_init_23 rfl qf_X8_22_7 rfl kA rfl rfl ?_
  have e : sFP (sFP (nArr (nObj h 3 2) 22 16) 29 (hz h) (some (hz (nObj h 3 2)))) 18 p (some (hz h)) = lfH h p 18 := rfl
  rw [e]
  generalize lfH h p 18 = h2 at *
  have kB : hK (nArr (nObj h2 3 2) 22 16) p = 8 := by
    show (if p = hz h2 + 1 then 22 else if p = hz h2 then 3 else hK h2 p) = 8
    rw [if_neg (by omega), if_neg (by omega)]
    exact k2
  refine v_ald0 (q := 27) dX8_init_26 rfl rfl ?_
  refine v_new (q := 30) dX8_init_27 rfl nw_X8_17 ?_
  refine v_dup (q := 31) dX8_init_30 rfl rfl ?_
  refine v_callIN (q := 34) (d' := d + 2) (av := []) dX8_init_31 rfl ok_X2_init rfl rfl mn_X8_19 im_X2_init (by omega) rfl rfl (Nat.le_of_ble_eq_true rfl) ?_
  refine k_lfInit (d := d + 1) (Wf_nObj wf2) (if_pos rfl) ?_
  refine v_putFP (q := 37) (x := some (hz h2)) dX8_init_34 rfl qf_X8_26_7 rfl kB rfl rfl ?_
  exact hQ
def lnH (h : Hp) (p : Nat) (kd : Int32) : Hp := sFP (nArr (sFI (sFI h 3 p kd) 2 p 1) 24 1000) 17 p (some (hz h))
theorem k_wgInit (k1 : hK h p = 8) (hp : p < hz h) (wf : Wf h) (hQ : Q none (wiH (lfH (lfH (lnH h p kd) p 18) p 19) p s0 kd a b lg)) : Call g mX8_init (d + 3) [.ref p, .int s0, .int kd, .int a, .int b, .ref lg] h Q := by
  have kA : hK (nArr (sFI (sFI h 3 p kd) 2 p 1) 24 1000) p = 8 := by
    show (if p = hz h then 24 else hK h p) = 8
    rw [if_neg (by omega)]
    exact k1
  have kL : hK (lnH h p kd) p = 8 := kA
  have wL : Wf (lnH h p kd) := Wf_same (h := nArr (sFI (sFI h 3 p kd) 2 p 1) 24 1000) rfl rfl (Wf_nArr (Wf_same (h := h) rfl rfl wf))
  have pL : p < hz (lnH h p kd) := by
    show p < hz h + 1
    omega
  refine Call.of [.ref p, .int s0, .int kd, .int a, .int b, .ref lg] (by decide) (Nat.le_of_ble_eq_true rfl) rfl ?_
  refine v_ald0 (q := 1) dX8_init_0 rfl rfl ?_
  refine v_ild2 (q := 2) dX8_init_1 rfl ?_
  refine v_callI (q := 5) (d' := d + 2) (av := [.int kd]) dX8_init_2 rfl ok_X6_init rfl rfl ml_X8_3 im_X6_init (by omega) rfl rfl (Nat.le_of_ble_eq_true rfl) ?_
  refine k_stgInitW (d := d) k1 ?_
  refine v_ald0 (q := 6) dX8_init_5 rfl rfl ?_
  refine v_sipush (q := 9) (v := 1000) dX8_init_6 rfl (by decide) ?_
  refine v_anew (q := 12) (k := 24) (N := 1000) dX8_init_9 rfl ⟨rfl, by decide, by decide⟩ cl_X8_9 lOverLane (by decide) (by decide) ?_
  refine v_putFP (q := 15) (x := some (hz h)) dX8_init_12 rfl qf_X8_11_7 rfl kA rfl rfl ?_
  have e : sFP (nArr (sFI (sFI h 3 p kd) 2 p 1) 24 1000) 17 p (some (hz h)) = lnH h p kd := rfl
  rw [e]
  generalize lnH h p kd = h1 at *
  refine wi15 (d := d) kL pL wL ?_
  have k2 := lf_kp (f := 18) kL pL
  have p2 : p < hz (lfH h1 p 18) := by
    show p < hz h1 + 2
    omega
  generalize lfH h1 p 18 = h2 at *
  have k3 := lf_kp (f := 19) k2 p2
  generalize lfH h2 p 19 = h3 at *
  exact wi37 (d := d) k3 hQ
end L75
