/-! 32: Source, Stage, Passing: constructors, isFedBy, rise -/
section L32
variable {g : Gl} {d : Nat} {h : Hp} {Q : Option Value → Hp → Prop}
theorem k_srcInit {a : Nat} (hQ : Q none h) : Call g mX5_init (d + 1) [.ref a] h Q := by
  refine Call.of [.ref a] (by decide) (Nat.le_of_ble_eq_true rfl) rfl ?_
  refine v_ald0 (q := 1) dX5_init_0 rfl rfl ?_
  refine v_objInit (q := 4) dX5_init_1 rfl (by omega) ml_X5_1 w_oi w_oc (Nat.le_of_ble_eq_true rfl) ?_
  refine v_vret dX5_init_4 rfl ?_
  exact hQ
theorem k_stgInitP {a : Nat} {kd : Int32} (hk : hK h a = 5) (hQ : Q none (sFI (sFI h 3 a kd) 2 a 1)) : Call g mX6_init (d + 2) [.ref a, .int kd] h Q := by
  refine Call.of [.ref a, .int kd] (by decide) (Nat.le_of_ble_eq_true rfl) rfl ?_
  refine v_ald0 (q := 1) dX6_init_0 rfl rfl ?_
  refine v_callIN (q := 4) (d' := d + 1) (av := []) dX6_init_1 rfl ok_X5_init rfl rfl mn_X6_1 im_X5_init (by omega) rfl rfl (Nat.le_of_ble_eq_true rfl) ?_
  refine k_srcInit ?_
  refine v_ald0 (q := 5) dX6_init_4 rfl rfl ?_
  refine v_ild1 (q := 6) dX6_init_5 rfl ?_
  refine v_putFI (q := 9) dX6_init_6 rfl qf_X6_7_4 rfl (by assumption) rfl rfl ?_
  refine v_ald0 (q := 10) dX6_init_9 rfl rfl ?_
  refine v_iconst (q := 11) (v := 1) dX6_init_10 rfl (by decide) ?_
  refine v_putI (q := 14) dX6_init_11 rfl pf_X6_13_4 (by assumption) rfl rfl ?_
  refine v_vret dX6_init_14 rfl ?_
  exact hQ
theorem k_stgInitW {a : Nat} {kd : Int32} (hk : hK h a = 8) (hQ : Q none (sFI (sFI h 3 a kd) 2 a 1)) : Call g mX6_init (d + 2) [.ref a, .int kd] h Q := by
  refine Call.of [.ref a, .int kd] (by decide) (Nat.le_of_ble_eq_true rfl) rfl ?_
  refine v_ald0 (q := 1) dX6_init_0 rfl rfl ?_
  refine v_callIN (q := 4) (d' := d + 1) (av := []) dX6_init_1 rfl ok_X5_init rfl rfl mn_X6_1 im_X5_init (by omega) rfl rfl (Nat.le_of_ble_eq_true rfl) ?_
  refine k_srcInit ?_
  refine v_ald0 (q := 5) dX6_init_4 rfl rfl ?_
  refine v_ild1 (q := 6) dX6_init_5 rfl ?_
  refine v_putFI (q := 9) dX6_init_6 rfl qf_X6_7_7 rfl (by assumption) rfl rfl ?_
  refine v_ald0 (q := 10) dX6_init_9 rfl rfl ?_
  refine v_iconst (q := 11) (v := 1) dX6_init_10 rfl (by decide) ?_
  refine v_putI (q := 14) dX6_init_11 rfl pf_X6_13_7 (by assumption) rfl rfl ?_
  refine v_vret dX6_init_14 rfl ?_
  exact hQ
theorem k_fedP {a : Nat} {i : Int32} (hk : hK h a = 5) (hQ : Q (some (.int (if (fI h 5 a >>> (i &&& 31)) &&& 1 = 0 then 0 else 1))) h) : Call g mX6_isFedBy d [.ref a, .int i] h Q := by
  refine Call.of [.ref a, .int i] (by decide) (Nat.le_of_ble_eq_true rfl) rfl ?_
  refine v_ald0 (q := 1) dX6_isFedBy_0 rfl rfl ?_
  refine v_getI (q := 4) dX6_isFedBy_1 rfl gf_X6_17_4 (by assumption) ?_
  refine v_ild1 (q := 5) dX6_isFedBy_4 rfl ?_
  refine v_ishr (q := 6) dX6_isFedBy_5 rfl ?_
  refine v_iconst (q := 7) (v := 1) dX6_isFedBy_6 rfl (by decide) ?_
  refine v_iand (q := 8) dX6_isFedBy_7 rfl ?_
  refine v_if_eq (t := 15) (q := 11) dX6_isFedBy_8 (by decide) rfl ?_ ?_
  · intro hc
    refine v_iconst (q := 16) (v := 0) dX6_isFedBy_15 rfl (by decide) ?_
    refine v_zret dX6_isFedBy_16 rfl rfl ?_
    rw [if_pos hc] at hQ
    exact hQ
  · intro hc
    refine v_iconst (q := 12) (v := 1) dX6_isFedBy_11 rfl (by decide) ?_
    refine v_goto (q := 16) dX6_isFedBy_12 (by decide) ?_
    refine v_zret dX6_isFedBy_16 rfl rfl ?_
    rw [if_neg hc] at hQ
    exact hQ
theorem k_fedW {a : Nat} {i : Int32} (hk : hK h a = 8) (hQ : Q (some (.int (if (fI h 5 a >>> (i &&& 31)) &&& 1 = 0 then 0 else 1))) h) : Call g mX6_isFedBy d [.ref a, .int i] h Q := by
  refine Call.of [.ref a, .int i] (by decide) (Nat.le_of_ble_eq_true rfl) rfl ?_
  refine v_ald0 (q := 1) dX6_isFedBy_0 rfl rfl ?_
  refine v_getI (q := 4) dX6_isFedBy_1 rfl gf_X6_17_7 (by assumption) ?_
  refine v_ild1 (q := 5) dX6_isFedBy_4 rfl ?_
  refine v_ishr (q := 6) dX6_isFedBy_5 rfl ?_
  refine v_iconst (q := 7) (v := 1) dX6_isFedBy_6 rfl (by decide) ?_
  refine v_iand (q := 8) dX6_isFedBy_7 rfl ?_
  refine v_if_eq (t := 15) (q := 11) dX6_isFedBy_8 (by decide) rfl ?_ ?_
  · intro hc
    refine v_iconst (q := 16) (v := 0) dX6_isFedBy_15 rfl (by decide) ?_
    refine v_zret dX6_isFedBy_16 rfl rfl ?_
    rw [if_pos hc] at hQ
    exact hQ
  · intro hc
    refine v_iconst (q := 12) (v := 1) dX6_isFedBy_11 rfl (by decide) ?_
    refine v_goto (q := 16) dX6_isFedBy_12 (by decide) ?_
    refine v_zret dX6_isFedBy_16 rfl rfl ?_
    rw [if_neg hc] at hQ
    exact hQ
theorem k_passInit {p : Nat} {kd a b : Int32} (hk : hK h p = 5) (hQ : Q none (sFI (sFI (sFI (sFI h 3 p kd) 2 p 1) 6 p a) 7 p b)) : Call g mX4_init (d + 3) [.ref p, .int kd, .int a, .int b] h Q := by
  refine Call.of [.ref p, .int kd, .int a, .int b] (by decide) (Nat.le_of_ble_eq_true rfl) rfl ?_
  refine v_ald0 (q := 1) dX4_init_0 rfl rfl ?_
  refine v_ild1 (q := 2) dX4_init_1 rfl ?_
  refine v_callI (q := 5) (d' := d + 2) (av := [.int kd]) dX4_init_2 rfl ok_X6_init rfl rfl ml_X4_3 im_X6_init (by omega) rfl rfl (Nat.le_of_ble_eq_true rfl) ?_
  refine k_stgInitP hk ?_
  refine v_ald0 (q := 6) dX4_init_5 rfl rfl ?_
  refine v_ild2 (q := 7) dX4_init_6 rfl ?_
  refine v_putFI (q := 10) dX4_init_7 rfl qf_X4_9_4 rfl (by assumption) rfl rfl ?_
  refine v_ald0 (q := 11) dX4_init_10 rfl rfl ?_
  refine v_ild3 (q := 12) dX4_init_11 rfl ?_
  refine v_putFI (q := 15) dX4_init_12 rfl qf_X4_15_4 rfl (by assumption) rfl rfl ?_
  refine v_vret dX4_init_15 rfl ?_
  exact hQ
theorem k_passRise {p : Nat} {m : Int32} (hk : hK h p = 5) (hQ : Q none (sFI h 1 p m)) : Call g mX4_rise d [.ref p, .int m] h Q := by
  refine Call.of [.ref p, .int m] (by decide) (Nat.le_of_ble_eq_true rfl) rfl ?_
  refine v_ald0 (q := 1) dX4_rise_0 rfl rfl ?_
  refine v_ild1 (q := 2) dX4_rise_1 rfl ?_
  refine v_putI (q := 5) dX4_rise_2 rfl pf_X4_18_4 (by assumption) rfl rfl ?_
  refine v_vret dX4_rise_5 rfl ?_
  exact hQ
theorem k_stageAt {c A : Nat} {n : Nat} {s : Int32} (hk : hK h c = 9) (hA : fP h 43 c = some A) (hm : fI h 46 c = nI n) (kA : hK h A = 26) (nA : hN h A = 16) (hn : n ≤ 16)
    (hQ : ∀ r, (∀ j, s = nI j → j < n → r = aP h A j) → (¬ (0 ≤ s ∧ s < nI n) → r = none) → Q (some (va_rf r)) h) : Call g mX9_stageAt d [.ref c, .int s] h Q := by
  refine Call.of [.ref c, .int s] (by decide) (Nat.le_of_ble_eq_true rfl) rfl ?_
  refine v_ild1 (q := 1) dX9_stageAt_0 rfl ?_
  refine v_if_lt (t := 21) (q := 4) dX9_stageAt_1 (by decide) rfl ?_ ?_
  · intro hc
    refine v_null (q := 22) dX9_stageAt_21 rfl ?_
    refine v_aret dX9_stageAt_22 rfl (Or.inl ⟨_, rfl⟩) rfl ?_
    exact hQ none (fun j e hj => absurd hc (by rw [e]; exact nI_pos (by omega))) (fun _ => rfl)
  · intro hc
    refine v_ild1 (q := 5) dX9_stageAt_4 rfl ?_
    refine v_ald0 (q := 6) dX9_stageAt_5 rfl rfl ?_
    refine v_getI (q := 9) dX9_stageAt_6 rfl gf_X9_37_8 (by assumption) ?_
    rw [hm]
    refine v_icmp_ge (t := 21) (q := 12) dX9_stageAt_9 (by decide) rfl ?_ ?_
    · intro hc2
      refine v_null (q := 22) dX9_stageAt_21 rfl ?_
      refine v_aret dX9_stageAt_22 rfl (Or.inl ⟨_, rfl⟩) rfl ?_
      exact hQ none (fun j e hj => absurd hc2 (by rw [e]; exact nI_ge hj (by omega))) (fun _ => rfl)
    · intro hc2
      obtain ⟨j, hj, rfl⟩ := nI_of hc
      have hjn : j < n := Classical.byContradiction fun q => hc2 (nI_le (by omega) (by omega))
      refine v_ald0 (q := 13) dX9_stageAt_12 rfl rfl ?_
      refine v_getR (q := 16) dX9_stageAt_13 rfl gf_X9_17_8 (by assumption) (by assumption) ?_
      refine v_ild1 (q := 17) dX9_stageAt_16 rfl ?_
      refine v_aald (q := 18) _ dX9_stageAt_17 rfl ⟨kA, by decide, by decide⟩ rfl (by omega) (by omega) ?_
      refine v_goto (q := 22) dX9_stageAt_18 (by decide) ?_
      refine v_aret dX9_stageAt_22 rfl (Or.inl ⟨_, rfl⟩) (isRf_rf _) ?_
      refine hQ _ (fun j' e hj' => ?_) (fun q => absurd ⟨nI_pos' hj, nI_lt hjn (by omega)⟩ q)
      rw [(nI_eq (by omega) (by omega)).mp e]
theorem k_portAt {c A : Nat} {s : Int32} (hk : hK h c = 9) (hA : fP h 42 c = some A) (kA : hK h A = 25) (nA : hN h A = 24)
    (hQ : ∀ r, (∀ j, s = nI j → j < 8 → r = aP h A j) → (¬ (0 ≤ s ∧ s ≤ 7) → r = none) → Q (some (va_rf r)) h) : Call g mX9_portAt (d + 2) [.ref c, .int s] h Q := by
  refine Call.of [.ref c, .int s] (by decide) (Nat.le_of_ble_eq_true rfl) rfl ?_
  refine v_ild1 (q := 1) dX9_portAt_0 rfl ?_
  refine v_callS (q := 4) (d' := d + 1) (av := [.int s]) dX9_portAt_1 rfl ok_X9_isPort ml_X9_95 st_X9_isPort (by omega) rfl rfl (Nat.le_of_ble_eq_true rfl) ?_
  refine k_isPort ?_
  by_cases hp : 0 ≤ s ∧ s ≤ 7
  · rw [b01_t hp]
    refine v_if_eq (t := 16) (q := 7) dX9_portAt_4 (by decide) rfl (fun hc => absurd hc (by decide)) (fun _ => ?_)
    obtain ⟨j, hj, rfl⟩ := nI_of (Int32.not_lt.mpr hp.1)
    have hj8 : j < 8 := Classical.byContradiction fun q => absurd hp.2 (show ¬ nI j ≤ nI 7 from nI_ge (by omega) hj)
    refine v_ald0 (q := 8) dX9_portAt_7 rfl rfl ?_
    refine v_getR (q := 11) dX9_portAt_8 rfl gf_X9_11_8 (by assumption) (by assumption) ?_
    refine v_ild1 (q := 12) dX9_portAt_11 rfl ?_
    refine v_aald (q := 13) _ dX9_portAt_12 rfl ⟨kA, by decide, by decide⟩ rfl (by omega) (by omega) ?_
    refine v_goto (q := 17) dX9_portAt_13 (by decide) ?_
    refine v_aret dX9_portAt_17 rfl (Or.inl ⟨_, rfl⟩) (isRf_rf _) ?_
    refine hQ _ (fun j' e hj' => ?_) (fun q => absurd hp q)
    rw [(nI_eq (by omega) (by omega)).mp e]
  · rw [b01_f hp]
    refine v_if_eq (t := 16) (q := 7) dX9_portAt_4 (by decide) rfl (fun _ => ?_) (fun hc => absurd rfl hc)
    refine v_null (q := 17) dX9_portAt_16 rfl ?_
    refine v_aret dX9_portAt_17 rfl (Or.inl ⟨_, rfl⟩) rfl ?_
    exact hQ none (fun j e hj => absurd ⟨by rw [e]; exact nI_pos' (by omega), by rw [e]; exact (show nI j ≤ nI 7 from nI_le (by omega) (by decide))⟩ hp) (fun _ => rfl)
theorem k_sourceAt {c A : Nat} {s : Int32} (hk : hK h c = 9) (hA : fP h 42 c = some A) (kA : hK h A = 25) (nA : hN h A = 24)
    (hQ : ∀ r, (∀ j, s = nI j → j < 24 → r = aP h A j) → (¬ (0 ≤ s ∧ s < nI 24) → r = none) → Q (some (va_rf r)) h) : Call g mX9_sourceAt d [.ref c, .int s] h Q := by
  refine Call.of [.ref c, .int s] (by decide) (Nat.le_of_ble_eq_true rfl) rfl ?_
  refine v_ild1 (q := 1) dX9_sourceAt_0 rfl ?_
  refine v_if_lt (t := 22) (q := 4) dX9_sourceAt_1 (by decide) rfl ?_ ?_
  · intro hc
    refine v_null (q := 23) dX9_sourceAt_22 rfl ?_
    refine v_aret dX9_sourceAt_23 rfl (Or.inl ⟨_, rfl⟩) rfl ?_
    exact hQ none (fun j e hj => absurd hc (by rw [e]; exact nI_pos (by omega))) (fun _ => rfl)
  · intro hc
    refine v_ild1 (q := 5) dX9_sourceAt_4 rfl ?_
    refine v_ald0 (q := 6) dX9_sourceAt_5 rfl rfl ?_
    refine v_getR (q := 9) dX9_sourceAt_6 rfl gf_X9_11_8 (by assumption) (by assumption) ?_
    refine v_alen (q := 10) dX9_sourceAt_9 rfl ⟨(by assumption), by decide, by decide⟩ ?_
    rw [nA]
    refine v_icmp_ge (t := 22) (q := 13) dX9_sourceAt_10 (by decide) rfl ?_ ?_
    · intro hc2
      refine v_null (q := 23) dX9_sourceAt_22 rfl ?_
      refine v_aret dX9_sourceAt_23 rfl (Or.inl ⟨_, rfl⟩) rfl ?_
      exact hQ none (fun j e hj => absurd hc2 (by rw [e]; exact nI_ge hj (by omega))) (fun q => rfl)
    · intro hc2
      obtain ⟨j, hj, rfl⟩ := nI_of hc
      have hjn : j < 24 := Classical.byContradiction fun q => hc2 (nI_le (by omega) (by omega))
      refine v_ald0 (q := 14) dX9_sourceAt_13 rfl rfl ?_
      refine v_getR (q := 17) dX9_sourceAt_14 rfl gf_X9_11_8 (by assumption) (by assumption) ?_
      refine v_ild1 (q := 18) dX9_sourceAt_17 rfl ?_
      refine v_aald (q := 19) _ dX9_sourceAt_18 rfl ⟨kA, by decide, by decide⟩ rfl (by omega) (by omega) ?_
      refine v_goto (q := 23) dX9_sourceAt_19 (by decide) ?_
      refine v_aret dX9_sourceAt_23 rfl (Or.inl ⟨_, rfl⟩) (isRf_rf _) ?_
      refine hQ _ (fun j' e hj' => ?_) (fun q => absurd ⟨nI_pos' hj, nI_lt hjn (by omega)⟩ q)
      rw [(nI_eq (by omega) (by omega)).mp e]
end L32
