/-! 25: Window: constructor, widen, combined, answer -/
section L25
variable {g : Gl} {d : Nat} {h : Hp} {Q : Option Value → Hp → Prop}
theorem k_winInit {w : Nat} {key b e : Int32} (hk : hK h w = 7) (hQ : Q none (sFI (sFI (sFI (sFI h 38 w (-1)) 34 w key) 35 w b) 36 w e)) : Call g mX7_init (d + 1) [.ref w, .int key, .int b, .int e] h Q := by
  refine Call.of [.ref w, .int key, .int b, .int e] (by decide) (Nat.le_of_ble_eq_true rfl) rfl ?_
  refine v_ald0 (q := 1) dX7_init_0 rfl rfl ?_
  refine v_objInit (q := 4) dX7_init_1 rfl (by omega) ml_X7_3 w_oi w_oc (Nat.le_of_ble_eq_true rfl) ?_
  refine v_ald0 (q := 5) dX7_init_4 rfl rfl ?_
  refine v_iconst (q := 6) (v := -1) dX7_init_5 rfl (by decide) ?_
  refine v_putI (q := 9) dX7_init_6 rfl pf_X7_9_6 (by assumption) rfl rfl ?_
  refine v_ald0 (q := 10) dX7_init_9 rfl rfl ?_
  refine v_ild1 (q := 11) dX7_init_10 rfl ?_
  refine v_putFI (q := 14) dX7_init_11 rfl qf_X7_15_6 rfl (by assumption) rfl rfl ?_
  refine v_ald0 (q := 15) dX7_init_14 rfl rfl ?_
  refine v_ild2 (q := 16) dX7_init_15 rfl ?_
  refine v_putI (q := 19) dX7_init_16 rfl pf_X7_18_6 (by assumption) rfl rfl ?_
  refine v_ald0 (q := 20) dX7_init_19 rfl rfl ?_
  refine v_ild3 (q := 21) dX7_init_20 rfl ?_
  refine v_putI (q := 24) dX7_init_21 rfl pf_X7_21_6 (by assumption) rfl rfl ?_
  refine v_vret dX7_init_24 rfl ?_
  exact hQ
theorem k_widen {w : Nat} {b e : Int32} (hk : hK h w = 7) (hQ : Q none (sFI (sFI h 35 w (if b < fI h 35 w then b else fI h 35 w)) 36 w (if fI h 36 w < e then e else fI h 36 w))) : Call g mX7_widen (d + 1) [.ref w, .int b, .int e] h Q := by
  refine Call.of [.ref w, .int b, .int e] (by decide) (Nat.le_of_ble_eq_true rfl) rfl ?_
  refine v_ald0 (q := 1) dX7_widen_0 rfl rfl ?_
  refine v_ald0 (q := 2) dX7_widen_1 rfl rfl ?_
  refine v_getI (q := 5) dX7_widen_2 rfl gf_X7_18_6 (by assumption) ?_
  refine v_ild1 (q := 6) dX7_widen_5 rfl ?_
  refine v_callS (q := 9) (d' := d) (av := [.int (fI h 35 w), .int b]) dX7_widen_6 rfl ok_J9_min_7cf53 ml_X7_24 st_J9_min_7cf53 (by omega) rfl rfl (Nat.le_of_ble_eq_true rfl) ?_
  refine k_minI ?_
  generalize hb : (if b < fI h 35 w then b else fI h 35 w) = b2 at hQ ⊢
  refine v_putI (q := 12) dX7_widen_9 rfl pf_X7_18_6 (by assumption) rfl rfl ?_
  refine v_ald0 (q := 13) dX7_widen_12 rfl rfl ?_
  refine v_ald0 (q := 14) dX7_widen_13 rfl rfl ?_
  refine v_getI (q := 17) dX7_widen_14 rfl gf_X7_21_6 (by assumption) ?_
  refine v_ild2 (q := 18) dX7_widen_17 rfl ?_
  have e1 : fI (sFI h 35 w b2) 36 w = fI h 36 w := by rw [fI_sFI, if_neg (fun x => absurd x.1 (by decide))]
  rw [e1]
  refine v_callS (q := 21) (d' := d) (av := [.int (fI h 36 w), .int e]) dX7_widen_18 rfl ok_J9_max_7cf53 ml_X7_30 st_J9_max_7cf53 (by omega) rfl rfl (Nat.le_of_ble_eq_true rfl) ?_
  refine k_maxI ?_
  refine v_putI (q := 24) dX7_widen_21 rfl pf_X7_21_6 (by assumption) rfl rfl ?_
  refine v_vret dX7_widen_24 rfl ?_
  exact hQ
def cmb (how : Int32) (t m : Int64) : Int64 := if how = 1 then t + m else if how = 2 then (if m < t then m else t) else if how = 3 then (if t < m then m else t) else t
theorem k_combined {w : Nat} {m : Int64} {how : Int32} (hk : hK h w = 7) (hQ : Q (some (.long (cmb how (fL h 39 w) m))) h) : Call g mX7_combined (d + 1) [.ref w, .long m, .int how] h Q := by
  refine Call.of [.ref w, .long m, zz, .int how] (by decide) (Nat.le_of_ble_eq_true rfl) rfl ?_
  refine v_ild3 (q := 1) dX7_combined_0 rfl ?_
  by_cases c1 : how = 1
  · subst c1
    refine v_tableIn 0 (t := 46) dX7_combined_1 (by decide) (by decide) rfl (by decide) ?_
    refine v_ald0 (q := 47) dX7_combined_46 rfl rfl ?_
    refine v_getL (q := 50) dX7_combined_47 rfl gf_X7_44_6 (by assumption) ?_
    refine v_lld1 (q := 51) dX7_combined_50 rfl ?_
    refine v_ladd (q := 52) dX7_combined_51 rfl ?_
    refine v_lret dX7_combined_52 rfl ?_
    exact hQ
  · by_cases c2 : how = 2
    · subst c2
      refine v_tableIn 1 (t := 28) dX7_combined_1 (by decide) (by decide) rfl (by decide) ?_
      refine v_ald0 (q := 29) dX7_combined_28 rfl rfl ?_
      refine v_getL (q := 32) dX7_combined_29 rfl gf_X7_44_6 (by assumption) ?_
      refine v_lld1 (q := 33) dX7_combined_32 rfl ?_
      refine v_callS (q := 36) (d' := d) (av := [.long (fL h 39 w), .long m]) dX7_combined_33 rfl ok_J9_min_f86c9 ml_X7_59 st_J9_min_f86c9 (by omega) rfl rfl (Nat.le_of_ble_eq_true rfl) ?_
      refine k_minL ?_
      refine v_lret dX7_combined_36 rfl ?_
      exact hQ
    · by_cases c3 : how = 3
      · subst c3
        refine v_tableIn 2 (t := 37) dX7_combined_1 (by decide) (by decide) rfl (by decide) ?_
        refine v_ald0 (q := 38) dX7_combined_37 rfl rfl ?_
        refine v_getL (q := 41) dX7_combined_38 rfl gf_X7_44_6 (by assumption) ?_
        refine v_lld1 (q := 42) dX7_combined_41 rfl ?_
        refine v_callS (q := 45) (d' := d) (av := [.long (fL h 39 w), .long m]) dX7_combined_42 rfl ok_J9_max_f86c9 ml_X7_62 st_J9_max_f86c9 (by omega) rfl rfl (Nat.le_of_ble_eq_true rfl) ?_
        refine k_maxL ?_
        refine v_lret dX7_combined_45 rfl ?_
        exact hQ
      · have ho : how.toInt < 1 ∨ 3 < how.toInt := by
          have n1 : how.toInt ≠ 1 := fun e => c1 (Int32.toInt_inj.mp (e.trans (by decide)))
          have n2 : how.toInt ≠ 2 := fun e => c2 (Int32.toInt_inj.mp (e.trans (by decide)))
          have n3 : how.toInt ≠ 3 := fun e => c3 (Int32.toInt_inj.mp (e.trans (by decide)))
          omega
        refine v_tableOut (t := 53) dX7_combined_1 ho (by decide) ?_
        refine v_ald0 (q := 54) dX7_combined_53 rfl rfl ?_
        refine v_getL (q := 57) dX7_combined_54 rfl gf_X7_44_6 (by assumption) ?_
        refine v_lret dX7_combined_57 rfl ?_
        rw [show cmb how (fL h 39 w) m = fL h 39 w by simp [cmb, c1, c2, c3]] at hQ
        exact hQ
end L25
