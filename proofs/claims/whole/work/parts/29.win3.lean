/-! 29: Window.add -/
section L29
variable {g : Gl} {d : Nat} {h : Hp} {Q : Option Value → Hp → Prop}
theorem add_end {w : Nat} {x : Int64} {how : Int32} (hk : hK h w = 7) (hQ : Q none (sFI h 37 w (fI h 37 w + 1))) : V g mX7_add d 49 [.ref w, .long x, zz, .int how] [] h Q := by
  refine v_ald0 (q := 50) dX7_add_49 rfl rfl ?_
  refine v_dup (q := 51) dX7_add_50 rfl rfl ?_
  refine v_getI (q := 54) dX7_add_51 rfl gf_X7_37_6 (by assumption) ?_
  refine v_iconst (q := 55) (v := 1) dX7_add_54 rfl (by decide) ?_
  refine v_iadd (q := 56) dX7_add_55 rfl ?_
  refine v_putI (q := 59) dX7_add_56 rfl pf_X7_37_6 (by assumption) rfl rfl ?_
  refine v_vret dX7_add_59 rfl ?_
  exact hQ
/-- add, where the values are kept (4: each once, 5: all) -/
theorem k_winAddV {w how : Nat} {to : Option Nat} {x : Int64} {vs : List Int64} (hV : Vv h w to vs) (hh : how = 4 ∨ how = 5) (hl : vs.length + 1 < 1000000) (hs0 : vs.Pairwise (· ≤ ·)) (wf : Wf h)
    (hQ : ∀ h' t' vs', Vv h' w (some t') vs' → Smo (fun a => a = w ∨ to = some a) h h' → Wf h' → InsAt vs vs' x (if how = 5 then 1 else 0) → OnlyV w h h' → (to = some t' ∧ hz h' = hz h ∧ hs h' = hs h ∧ hN h' t' = hN h t' ∨ t' = hz h ∧ hz h' = hz h + 1 ∧ (to = none ∧ hs h' = hs h + 4 ∧ hN h' t' = 4 ∨ ∃ t, to = some t ∧ hN h t = vs.length ∧ hs h' = hs h + 2 * vs.length ∧ hN h' t' = 2 * vs.length)) → Q none (sFI h' 37 w (fI h 37 w + 1))) :
    Call g mX7_add (d + 3) [.ref w, .long x, .int (nI how)] h Q := by
  have hk := hV.1
  refine Call.of [.ref w, .long x, zz, .int (nI how)] (by decide) (Nat.le_of_ble_eq_true rfl) rfl ?_
  rcases hh with rfl | rfl
  · refine v_ild3 (q := 1) dX7_add_0 rfl ?_
    refine v_iconst (q := 2) (v := 4) dX7_add_1 rfl (by decide) ?_
    refine v_icmp_eq (t := 10) (q := 5) dX7_add_2 (by decide) rfl (fun _ => ?_) (fun hc => absurd rfl hc)
    refine v_ald0 (q := 11) dX7_add_10 rfl rfl ?_
    refine v_lld1 (q := 12) dX7_add_11 rfl ?_
    refine v_ild3 (q := 13) dX7_add_12 rfl ?_
    refine v_iconst (q := 14) (v := 5) dX7_add_13 rfl (by decide) ?_
    refine v_icmp_ne (t := 21) (q := 17) dX7_add_14 (by decide) rfl (fun _ => ?_) (fun hc => absurd hc (by decide))
    refine v_iconst (q := 22) (v := 0) dX7_add_21 rfl (by decide) ?_
    refine v_callV (q := 25) (d' := d + 2) (av := [.long x, .int 0]) dX7_add_22 rfl ok_X7_insert CL6 ml_X7_33 im_X7_insert se_X7_insert (by assumption) (by omega) rfl rfl (Nat.le_of_ble_eq_true rfl) ?_
    refine k_insert (d := d) hV hl hs0 wf (fun h' t' vs' s1 s2 s3 s4 s5 s6 => ?_)
    refine v_goto (q := 49) dX7_add_25 (by decide) ?_
    refine add_end s1.1 ?_
    rw [s5.1 37 (by decide)]
    exact hQ h' t' vs' s1 s2 s3 s4 s5 s6
  · refine v_ild3 (q := 1) dX7_add_0 rfl ?_
    refine v_iconst (q := 2) (v := 4) dX7_add_1 rfl (by decide) ?_
    refine v_icmp_eq (t := 10) (q := 5) dX7_add_2 (by decide) rfl (fun hc => absurd hc (by decide)) (fun _ => ?_)
    refine v_ild3 (q := 6) dX7_add_5 rfl ?_
    refine v_iconst (q := 7) (v := 5) dX7_add_6 rfl (by decide) ?_
    refine v_icmp_ne (t := 28) (q := 10) dX7_add_7 (by decide) rfl (fun hc => absurd rfl hc) (fun _ => ?_)
    refine v_ald0 (q := 11) dX7_add_10 rfl rfl ?_
    refine v_lld1 (q := 12) dX7_add_11 rfl ?_
    refine v_ild3 (q := 13) dX7_add_12 rfl ?_
    refine v_iconst (q := 14) (v := 5) dX7_add_13 rfl (by decide) ?_
    refine v_icmp_ne (t := 21) (q := 17) dX7_add_14 (by decide) rfl (fun hc => absurd rfl hc) (fun _ => ?_)
    refine v_iconst (q := 18) (v := 1) dX7_add_17 rfl (by decide) ?_
    refine v_goto (q := 22) dX7_add_18 (by decide) ?_
    refine v_callV (q := 25) (d' := d + 2) (av := [.long x, .int 1]) dX7_add_22 rfl ok_X7_insert CL6 ml_X7_33 im_X7_insert se_X7_insert (by assumption) (by omega) rfl rfl (Nat.le_of_ble_eq_true rfl) ?_
    refine k_insert (d := d) hV hl hs0 wf (fun h' t' vs' s1 s2 s3 s4 s5 s6 => ?_)
    refine v_goto (q := 49) dX7_add_25 (by decide) ?_
    refine add_end s1.1 ?_
    rw [s5.1 37 (by decide)]
    exact hQ h' t' vs' s1 s2 s3 s4 s5 s6
/-- add, where the values are not kept -/
theorem k_winAddT {w how : Nat} {x : Int64} (hk : hK h w = 7) (hh : how ≤ 3) (hQ : Q none (sFI (sFL h 39 w (if fI h 37 w = 0 then x else cmb (nI how) (fL h 39 w) x)) 37 w (fI h 37 w + 1))) : Call g mX7_add (d + 3) [.ref w, .long x, .int (nI how)] h Q := by
  refine Call.of [.ref w, .long x, zz, .int (nI how)] (by decide) (Nat.le_of_ble_eq_true rfl) rfl ?_
  have n4 : ¬ nI how = 4 := fun e => absurd ((nI_eq (a := how) (b := 4) (by omega) (by decide)).mp e) (by omega)
  have n5 : ¬ nI how = 5 := fun e => absurd ((nI_eq (a := how) (b := 5) (by omega) (by decide)).mp e) (by omega)
  refine v_ild3 (q := 1) dX7_add_0 rfl ?_
  refine v_iconst (q := 2) (v := 4) dX7_add_1 rfl (by decide) ?_
  refine v_icmp_eq (t := 10) (q := 5) dX7_add_2 (by decide) rfl (fun hc => absurd hc n4) (fun _ => ?_)
  refine v_ild3 (q := 6) dX7_add_5 rfl ?_
  refine v_iconst (q := 7) (v := 5) dX7_add_6 rfl (by decide) ?_
  refine v_icmp_ne (t := 28) (q := 10) dX7_add_7 (by decide) rfl (fun _ => ?_) (fun hc => absurd hc n5)
  refine v_ald0 (q := 29) dX7_add_28 rfl rfl ?_
  refine v_ald0 (q := 30) dX7_add_29 rfl rfl ?_
  refine v_getI (q := 33) dX7_add_30 rfl gf_X7_37_6 (by assumption) ?_
  refine v_if_ne (t := 40) (q := 36) dX7_add_33 (by decide) rfl ?_ ?_
  · intro hc
    refine v_ald0 (q := 41) dX7_add_40 rfl rfl ?_
    refine v_lld1 (q := 42) dX7_add_41 rfl ?_
    refine v_ild3 (q := 43) dX7_add_42 rfl ?_
    refine v_callV (q := 46) (d' := d + 2) (av := [.long x, .int (nI how)]) dX7_add_43 rfl ok_X7_combined CL6 ml_X7_40 im_X7_combined se_X7_combined (by assumption) (by omega) rfl rfl (Nat.le_of_ble_eq_true rfl) ?_
    refine k_combined (d := d + 1) hk ?_
    rw [if_neg hc] at hQ
    refine v_putL (q := 49) dX7_add_46 rfl pf_X7_44_6 (by assumption) ?_
    exact add_end hk hQ
  · intro hc
    refine v_lld1 (q := 37) dX7_add_36 rfl ?_
    refine v_goto (q := 46) dX7_add_37 (by decide) ?_
    rw [if_pos hc] at hQ
    refine v_putL (q := 49) dX7_add_46 rfl pf_X7_44_6 (by assumption) ?_
    exact add_end hk hQ
end L29
