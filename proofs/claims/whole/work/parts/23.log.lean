/-! 23: Log -/
def LGb (h : Hp) (C S n : Nat) (cb sb : Nat → Nat) (b : Nat) : Prop := if b * 1024 < n then aP h C b = some (cb b) ∧ aP h S b = some (sb b) ∧ hK h (cb b) = 22 ∧ hN h (cb b) = 1024 ∧ hK h (sb b) = 22 ∧ hN h (sb b) = 1024 else aP h C b = none ∧ aP h S b = none
/-- the log lg: its two rows of blocks, how many rows, the blocks -/
def LGv (h : Hp) (lg C S n : Nat) (cb sb : Nat → Nat) : Prop := hK h lg = 4 ∧ fP h 31 lg = some C ∧ fP h 32 lg = some S ∧ hK h C = 28 ∧ hN h C = 188 ∧ hK h S = 28 ∧ hN h S = 188 ∧ C ≠ S ∧ fI h 33 lg = nI n ∧ n ≤ 192512 ∧ (∀ b, b < 188 → LGb h C S n cb sb b) ∧ ∀ b b', b * 1024 < n → b' * 1024 < n → (cb b = cb b' → b = b') ∧ (sb b = sb b' → b = b') ∧ cb b ≠ sb b'
def lgR (h : Hp) (cb : Nat → Nat) (i : Nat) : Int64 := aL h (cb (i / 1024)) (i % 1024)
section L23
variable {g : Gl} {d : Nat} {h : Hp} {Q : Option Value → Hp → Prop}
theorem k_logInit {lg : Nat} (wf : Wf h) (hk : hK h lg = 4) (hQ : Q none (sFP (nArr (sFP (nArr h 28 188) 31 lg (some (hz h))) 28 188) 32 lg (some (hz h + 1)))) : Call g mX3_init (d + 1) [.ref lg] h Q := by
  have hq := wf lg (by omega)
  refine Call.of [.ref lg] (by decide) (Nat.le_of_ble_eq_true rfl) rfl ?_
  have k1 : hK (nArr h 28 188) lg = 4 := by
    rw [hK_nArr, if_neg (Nat.ne_of_lt hq)]
    exact hk
  have k2 : hK (nArr (sFP (nArr h 28 188) 31 lg (some (hz h))) 28 188) lg = 4 := by
    rw [hK_nArr, if_neg (show lg ≠ hz (sFP (nArr h 28 188) 31 lg (some (hz h))) from by show lg ≠ hz h + 1; omega)]
    exact k1
  refine v_ald0 (q := 1) dX3_init_0 rfl rfl ?_
  refine v_objInit (q := 4) dX3_init_1 rfl (by omega) ml_X3_5 w_oi w_oc (Nat.le_of_ble_eq_true rfl) ?_
  refine v_ald0 (q := 5) dX3_init_4 rfl rfl ?_
  refine v_sipush (q := 8) (v := 188) dX3_init_5 rfl (by decide) ?_
  refine v_anewA (q := 11) (N := 188) dX3_init_8 rfl cl_X3_11 lOverJ (by decide) (by decide) ?_
  refine v_putFP (q := 14) (x := some (hz h)) dX3_init_11 rfl qf_X3_13_3 rfl k1 rfl rfl ?_
  refine v_ald0 (q := 15) dX3_init_14 rfl rfl ?_
  refine v_sipush (q := 18) (v := 188) dX3_init_15 rfl (by decide) ?_
  refine v_anewA (q := 21) (N := 188) dX3_init_18 rfl cl_X3_11 lOverJ (by decide) (by decide) ?_
  refine v_putFP (q := 24) (x := some (hz h + 1)) dX3_init_21 rfl qf_X3_17_3 rfl k2 rfl rfl ?_
  refine v_vret dX3_init_24 rfl ?_
  exact hQ
theorem k_logHolds {lg n : Nat} {i : Int32} (hk : hK h lg = 4) (hn : fI h 33 lg = nI n) (hQ : Q (some (.int (b01 (0 ≤ i ∧ i < nI n)))) h) : Call g mX3_holds d [.ref lg, .int i] h Q := by
  refine Call.of [.ref lg, .int i] (by decide) (Nat.le_of_ble_eq_true rfl) rfl ?_
  refine v_ild1 (q := 1) dX3_holds_0 rfl ?_
  refine v_if_lt (t := 16) (q := 4) dX3_holds_1 (by decide) rfl ?_ ?_
  · intro hc
    refine v_iconst (q := 17) (v := 0) dX3_holds_16 rfl (by decide) ?_
    refine v_zret dX3_holds_17 rfl rfl ?_
    rw [b01_f (fun e => absurd hc (Int32.not_lt.mpr e.1))] at hQ
    exact hQ
  · intro hc
    refine v_ild1 (q := 5) dX3_holds_4 rfl ?_
    refine v_ald0 (q := 6) dX3_holds_5 rfl rfl ?_
    refine v_getI (q := 9) dX3_holds_6 rfl gf_X3_20_3 (by assumption) ?_
    rw [hn]
    refine v_icmp_ge (t := 16) (q := 12) dX3_holds_9 (by decide) rfl ?_ ?_
    · intro hc2
      refine v_iconst (q := 17) (v := 0) dX3_holds_16 rfl (by decide) ?_
      refine v_zret dX3_holds_17 rfl rfl ?_
      rw [b01_f (fun e => absurd e.2 (Int32.not_lt.mpr hc2))] at hQ
      exact hQ
    · intro hc2
      refine v_iconst (q := 13) (v := 1) dX3_holds_12 rfl (by decide) ?_
      refine v_goto (q := 17) dX3_holds_13 (by decide) ?_
      refine v_zret dX3_holds_17 rfl rfl ?_
      rw [b01_t ⟨Int32.not_lt.mp hc, Int32.not_le.mp hc2⟩] at hQ
      exact hQ
theorem blk_of {i : Nat} (hi : i < 2147483648) : nI i >>> ((10 : Int32) &&& 31) = nI (i / 1024) := pk_shrN hi ((10 : Int32) &&& 31) 10 (by decide)
theorem plc_of {i : Nat} (hi : i < 2147483648) : nI i - nI i / 1024 * 1024 = nI (i % 1024) := pk_rem (d := 1024) hi (by decide) (by decide)
theorem k_codeAt {lg C S n : Nat} {cb sb : Nat → Nat} {i : Int32} (hL : LGv h lg C S n cb sb) (hQ : ∀ v, (∀ j, i = nI j → j < n → v = lgR h cb j) → (¬ (0 ≤ i ∧ i < nI n) → v = 0) → Q (some (.long v)) h) : Call g mX3_codeAt (d + 1) [.ref lg, .int i] h Q := by
  obtain ⟨l1, l2, l3, l4, l5, l6, l7, l8, l9, l10, l11, l12⟩ := hL
  refine Call.of [.ref lg, .int i] (by decide) (Nat.le_of_ble_eq_true rfl) rfl ?_
  refine v_ald0 (q := 1) dX3_codeAt_0 rfl rfl ?_
  refine v_ild1 (q := 2) dX3_codeAt_1 rfl ?_
  refine v_callV (q := 5) (d' := d) (av := [.int i]) dX3_codeAt_2 rfl ok_X3_holds CL3 ml_X3_24 im_X3_holds se_X3_holds (by assumption) (by omega) rfl rfl (Nat.le_of_ble_eq_true rfl) ?_
  refine k_logHolds l1 l9 ?_
  by_cases hh : 0 ≤ i ∧ i < nI n
  · rw [b01_t hh]
    refine v_if_eq (t := 26) (q := 8) dX3_codeAt_5 (by decide) rfl (fun hc => absurd hc (by decide)) (fun _ => ?_)
    obtain ⟨j, hj, rfl⟩ := nI_of (Int32.not_lt.mpr hh.1)
    have hjn : j < n := Classical.byContradiction fun hc => absurd hh.2 (nI_nlt (by omega) (by omega))
    have hb := l11 (j / 1024) (by omega)
    unfold LGb at hb
    rw [if_pos (by omega)] at hb
    obtain ⟨b1, b2, b3, b4, b5, b6⟩ := hb
    refine v_ald0 (q := 9) dX3_codeAt_8 rfl rfl ?_
    refine v_getR (q := 12) dX3_codeAt_9 rfl gf_X3_13_3 (by assumption) (by assumption) ?_
    refine v_ild1 (q := 13) dX3_codeAt_12 rfl ?_
    refine v_bipush (q := 15) (v := 10) dX3_codeAt_13 rfl (by decide) ?_
    refine v_ishr (q := 16) dX3_codeAt_15 rfl ?_
    refine v_aald (q := 17) _ dX3_codeAt_16 rfl ⟨l4, by decide, by decide⟩ (blk_of (by omega)) (by omega) (by omega) ?_
    rw [b1]
    refine v_ild1 (q := 18) dX3_codeAt_17 rfl ?_
    refine v_sipush (q := 21) (v := 1024) dX3_codeAt_18 rfl (by decide) ?_
    refine v_irem (q := 22) dX3_codeAt_21 rfl (by decide) ?_
    refine v_lald (q := 23) _ dX3_codeAt_22 rfl b3 (plc_of (by omega)) (by omega) (by omega) ?_
    refine v_goto (q := 27) dX3_codeAt_23 (by decide) ?_
    refine v_lret dX3_codeAt_27 rfl ?_
    refine hQ _ (fun j' e hj' => ?_) (fun hc => absurd hh hc)
    rw [(nI_eq (by omega) (by omega)).mp e]
    rfl
  · rw [b01_f hh]
    refine v_if_eq (t := 26) (q := 8) dX3_codeAt_5 (by decide) rfl (fun _ => ?_) (fun hc => absurd rfl hc)
    refine v_lconst (q := 27) (v := 0) dX3_codeAt_26 rfl (by decide) ?_
    refine v_lret dX3_codeAt_27 rfl ?_
    refine hQ _ (fun j e hj => absurd ⟨by rw [e]; exact nI_pos' (by omega), by rw [e]; exact nI_lt hj (by omega)⟩ hh) (fun _ => rfl)
theorem k_sumAt {lg C S n : Nat} {cb sb : Nat → Nat} {i : Int32} (hL : LGv h lg C S n cb sb) (hQ : ∀ v, (∀ j, i = nI j → j < n → v = lgR h sb j) → (¬ (0 ≤ i ∧ i < nI n) → v = 0) → Q (some (.long v)) h) : Call g mX3_sumAt (d + 1) [.ref lg, .int i] h Q := by
  obtain ⟨l1, l2, l3, l4, l5, l6, l7, l8, l9, l10, l11, l12⟩ := hL
  refine Call.of [.ref lg, .int i] (by decide) (Nat.le_of_ble_eq_true rfl) rfl ?_
  refine v_ald0 (q := 1) dX3_sumAt_0 rfl rfl ?_
  refine v_ild1 (q := 2) dX3_sumAt_1 rfl ?_
  refine v_callV (q := 5) (d' := d) (av := [.int i]) dX3_sumAt_2 rfl ok_X3_holds CL3 ml_X3_24 im_X3_holds se_X3_holds (by assumption) (by omega) rfl rfl (Nat.le_of_ble_eq_true rfl) ?_
  refine k_logHolds l1 l9 ?_
  by_cases hh : 0 ≤ i ∧ i < nI n
  · rw [b01_t hh]
    refine v_if_eq (t := 26) (q := 8) dX3_sumAt_5 (by decide) rfl (fun hc => absurd hc (by decide)) (fun _ => ?_)
    obtain ⟨j, hj, rfl⟩ := nI_of (Int32.not_lt.mpr hh.1)
    have hjn : j < n := Classical.byContradiction fun hc => absurd hh.2 (nI_nlt (by omega) (by omega))
    have hb := l11 (j / 1024) (by omega)
    unfold LGb at hb
    rw [if_pos (by omega)] at hb
    obtain ⟨b1, b2, b3, b4, b5, b6⟩ := hb
    refine v_ald0 (q := 9) dX3_sumAt_8 rfl rfl ?_
    refine v_getR (q := 12) dX3_sumAt_9 rfl gf_X3_17_3 (by assumption) (by assumption) ?_
    refine v_ild1 (q := 13) dX3_sumAt_12 rfl ?_
    refine v_bipush (q := 15) (v := 10) dX3_sumAt_13 rfl (by decide) ?_
    refine v_ishr (q := 16) dX3_sumAt_15 rfl ?_
    refine v_aald (q := 17) _ dX3_sumAt_16 rfl ⟨l6, by decide, by decide⟩ (blk_of (by omega)) (by omega) (by omega) ?_
    rw [b2]
    refine v_ild1 (q := 18) dX3_sumAt_17 rfl ?_
    refine v_sipush (q := 21) (v := 1024) dX3_sumAt_18 rfl (by decide) ?_
    refine v_irem (q := 22) dX3_sumAt_21 rfl (by decide) ?_
    refine v_lald (q := 23) _ dX3_sumAt_22 rfl b5 (plc_of (by omega)) (by omega) (by omega) ?_
    refine v_goto (q := 27) dX3_sumAt_23 (by decide) ?_
    refine v_lret dX3_sumAt_27 rfl ?_
    refine hQ _ (fun j' e hj' => ?_) (fun hc => absurd hh hc)
    rw [(nI_eq (by omega) (by omega)).mp e]
    rfl
  · rw [b01_f hh]
    refine v_if_eq (t := 26) (q := 8) dX3_sumAt_5 (by decide) rfl (fun _ => ?_) (fun hc => absurd rfl hc)
    refine v_lconst (q := 27) (v := 0) dX3_sumAt_26 rfl (by decide) ?_
    refine v_lret dX3_sumAt_27 rfl ?_
    refine hQ _ (fun j e hj => absurd ⟨by rw [e]; exact nI_pos' (by omega), by rw [e]; exact nI_lt hj (by omega)⟩ hh) (fun _ => rfl)
/-- the end of add: both blocks are there -/
theorem log_tail {lg C S n c0 s0 : Nat} {x y : Int64} (l1 : hK h lg = 4) (l2 : fP h 31 lg = some C) (l3 : fP h 32 lg = some S) (l4 : hK h C = 28) (l5 : hN h C = 188) (l6 : hK h S = 28) (l7 : hN h S = 188) (l9 : fI h 33 lg = nI n) (l10 : n < 192512) (b1 : aP h C (n / 1024) = some c0) (b2 : aP h S (n / 1024) = some s0) (b3 : hK h c0 = 22) (b4 : hN h c0 = 1024) (b5 : hK h s0 = 22) (b6 : hN h s0 = 1024) (hne : c0 ≠ s0)
    (hQ : Q (some (.int (nI n))) (sFI (sAL (sAL h c0 (vp_updL (aL h c0) (n % 1024) x)) s0 (vp_updL (aL h s0) (n % 1024) y)) 33 lg (nI (n + 1)))) : V g mX3_add (d + 1) 63 [.ref lg, .long x, zz, .long y, zz, .int (nI (n / 1024))] [] h Q := by
  refine v_ald0 (q := 64) dX3_add_63 rfl rfl ?_
  refine v_getR (q := 67) dX3_add_64 rfl gf_X3_13_3 (by assumption) (by assumption) ?_
  refine v_ild5 (q := 69) dX3_add_67 rfl ?_
  refine v_aald (q := 70) _ dX3_add_69 rfl ⟨l4, by decide, by decide⟩ rfl (by omega) (by omega) ?_
  rw [b1]
  refine v_ald0 (q := 71) dX3_add_70 rfl rfl ?_
  refine v_getI (q := 74) dX3_add_71 rfl gf_X3_20_3 (by assumption) ?_
  rw [l9]
  refine v_sipush (q := 77) (v := 1024) dX3_add_74 rfl (by decide) ?_
  refine v_irem (q := 78) dX3_add_77 rfl (by decide) ?_
  refine v_lld1 (q := 79) dX3_add_78 rfl ?_
  refine v_last (q := 80) _ dX3_add_79 rfl b3 (plc_of (by omega)) (by omega) (by omega) ?_
  generalize hv1 : vp_updL (aL h c0) (n % 1024) x = v1
  refine v_ald0 (q := 81) dX3_add_80 rfl rfl ?_
  refine v_getR (q := 84) dX3_add_81 rfl gf_X3_17_3 (by assumption) (by assumption) ?_
  refine v_ild5 (q := 86) dX3_add_84 rfl ?_
  refine v_aald (q := 87) _ dX3_add_86 rfl ⟨l6, by decide, by decide⟩ rfl (show n / 1024 < hN h S by omega) (show hN h S < 2147483648 by omega) ?_
  have b2' : aP (sAL h c0 v1) S (n / 1024) = some s0 := b2
  rw [b2']
  refine v_ald0 (q := 88) dX3_add_87 rfl rfl ?_
  refine v_getI (q := 91) dX3_add_88 rfl gf_X3_20_3 (by assumption) ?_
  have l9' : fI (sAL h c0 v1) 33 lg = nI n := l9
  rw [l9']
  refine v_sipush (q := 94) (v := 1024) dX3_add_91 rfl (by decide) ?_
  refine v_irem (q := 95) dX3_add_94 rfl (by decide) ?_
  refine v_lld3 (q := 96) dX3_add_95 rfl ?_
  refine v_last (q := 97) _ dX3_add_96 rfl b5 (plc_of (by omega)) (show n % 1024 < hN h s0 by omega) (show hN h s0 < 2147483648 by omega) ?_
  have e1 : aL (sAL h c0 v1) s0 = aL h s0 := by rw [aL_sAL, if_neg (Ne.symm hne)]
  rw [e1]
  generalize hv2 : vp_updL (aL h s0) (n % 1024) y = v2
  refine v_ald0 (q := 98) dX3_add_97 rfl rfl ?_
  refine v_dup (q := 99) dX3_add_98 rfl rfl ?_
  refine v_getI (q := 102) dX3_add_99 rfl gf_X3_20_3 (by assumption) ?_
  have l9'' : fI (sAL (sAL h c0 v1) s0 v2) 33 lg = nI n := l9
  rw [l9'']
  refine v_dup_x1 (q := 103) dX3_add_102 rfl rfl rfl ?_
  refine v_iconst (q := 104) (v := 1) dX3_add_103 rfl (by decide) ?_
  refine v_iadd (q := 105) dX3_add_104 rfl ?_
  rw [nI_1]
  refine v_putI (q := 108) dX3_add_105 rfl pf_X3_20_3 (by assumption) rfl rfl ?_
  refine v_iret dX3_add_108 rfl ?_
  rw [← hv1, ← hv2] 
  exact hQ
end L23
