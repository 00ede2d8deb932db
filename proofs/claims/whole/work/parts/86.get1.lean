/-! 86: WindowMill: rows, sum, markOf -/
def aSum (X : Sg) (i : Int32) : Int64 := if i < 0 then 0 else (((xR X)[i.toNatClampNeg]?).map rSum).getD 0
def aMarkOf (X : Sg) (i : Int32) : Int32 := if 0 ≤ i ∧ i ≤ 7 then xP X i.toNatClampNeg else -1
section L86
variable {g : Gl} {d : Nat} {h : Hp} {Q : Option Value → Hp → Prop} {ow : Nat → Nat} {c lg SA ST WY : Nat} {po sp us uz : Nat → Nat} {X : Sg}
theorem k_rows (hM : MV g h ow c lg SA ST WY po sp X us uz) (hQ : Q (some (.int (nI (xR X).length))) h) : Call g mX9_rows d [.ref c] h Q := by
  obtain ⟨⟨a1, a2, a3, a4, a5, a6, a7, a8⟩, _, _, _, _, hL, _⟩ := hM
  have kl := hL.kd
  have k4 : hK h lg = 4 := kl.1
  refine Call.of [.ref c] (by decide) (Nat.le_of_ble_eq_true rfl) rfl ?_
  refine v_ald0 (q := 1) dX9_rows_0 rfl rfl ?_
  refine v_getR (q := 4) dX9_rows_1 rfl gf_X9_28_8 (by assumption) (by assumption) ?_
  refine v_getI (q := 7) dX9_rows_4 rfl gf_X9_105_3 (by assumption) ?_
  rw [kl.2.1]
  refine v_iret dX9_rows_7 rfl ?_
  exact hQ
theorem k_sum {i : Int32} (hM : MV g h ow c lg SA ST WY po sp X us uz) (hQ : Q (some (.long (aSum X i))) h) : Call g mX9_sum (d + 2) [.ref c, .int i] h Q := by
  obtain ⟨⟨a1, a2, a3, a4, a5, a6, a7, a8⟩, _, _, _, _, hL, _⟩ := hM
  have kl := hL.kd
  have k4 : hK h lg = 4 := kl.1
  refine Call.of [.ref c, .int i] (by decide) (Nat.le_of_ble_eq_true rfl) rfl ?_
  refine v_ald0 (q := 1) dX9_sum_0 rfl rfl ?_
  refine v_getR (q := 4) dX9_sum_1 rfl gf_X9_28_8 (by assumption) (by assumption) ?_
  refine v_ild1 (q := 5) dX9_sum_4 rfl ?_
  refine v_callV (q := 8) (d' := d + 1) (av := [.int i]) dX9_sum_5 rfl ok_X3_sumAt CL3 ml_X9_151 im_X3_sumAt se_X3_sumAt (by assumption) (by omega) rfl rfl (Nat.le_of_ble_eq_true rfl) ?_
  by_cases h0 : i < 0
  · refine k_sumN (d := d) hL (fun hh => absurd h0 (Int32.not_lt.mpr hh.1)) ?_
    refine v_lret dX9_sum_8 rfl ?_
    have e : aSum X i = 0 := if_pos h0
    rw [e] at hQ
    exact hQ
  · obtain ⟨j, hj, rfl⟩ := nI_of h0
    have e : aSum X (nI j) = (((xR X)[j]?).map rSum).getD 0 := by
      unfold aSum
      rw [if_neg h0, nI_clamp (by omega)]
    rw [e] at hQ
    match hr : (xR X)[j]? with
    | some r =>
      rw [hr] at hQ
      refine k_sumV (d := d) hL hr ?_
      refine v_lret dX9_sum_8 rfl ?_
      exact hQ
    | none =>
      rw [hr] at hQ
      have hle : (xR X).length ≤ j := List.getElem?_eq_none_iff.mp hr
      refine k_sumN (d := d) hL (fun hh => absurd hh.2 (nI_nlt hle (by omega))) ?_
      refine v_lret dX9_sum_8 rfl ?_
      exact hQ
theorem k_markOf {i : Int32} (hM : MV g h ow c lg SA ST WY po sp X us uz) (hQ : Q (some (.int (aMarkOf X i))) h) : Call g mX9_markOf (d + 3) [.ref c, .int i] h Q := by
  obtain ⟨⟨a1, a2, a3, a4, a5, a6, a7, a8⟩, ⟨b1, b2, b3, _⟩, hP, _⟩ := hM
  refine Call.of [.ref c, .int i, zz] (by decide) (Nat.le_of_ble_eq_true rfl) rfl ?_
  refine v_ald0 (q := 1) dX9_markOf_0 rfl rfl ?_
  refine v_ild1 (q := 2) dX9_markOf_1 rfl ?_
  refine v_callV (q := 5) (d' := d + 2) (av := [.int i]) dX9_markOf_2 rfl ok_X9_portAt CL8 ml_X9_110 im_X9_portAt se_X9_portAt (by assumption) (by omega) rfl rfl (Nat.le_of_ble_eq_true rfl) ?_
  refine k_portAt (d := d) a1 a3 b1 b2 (fun r h1 h2 => ?_)
  by_cases hi : 0 ≤ i ∧ i ≤ 7
  · obtain ⟨j, hj, rfl⟩ := nI_of (Int32.not_lt.mpr hi.1)
    have hj8 : j < 8 := Classical.byContradiction fun q => absurd hi.2 (show ¬ nI j ≤ nI 7 from nI_ge (by omega) hj)
    have er := h1 j rfl hj8
    obtain ⟨p1, p2, p3, p4, p5⟩ := hP j hj8
    rw [p1] at er
    subst er
    have e : aMarkOf X (nI j) = xP X j := by
      unfold aMarkOf
      rw [if_pos hi, nI_clamp (by omega)]
    rw [e, ← p4] at hQ
    refine v_ast2 (q := 6) dX9_markOf_5 rfl (by decide) rfl rfl ?_
    refine v_ald2 (q := 7) dX9_markOf_6 rfl rfl ?_
    refine v_ifnonnull (r := some (po j)) (t := 14) (q := 10) dX9_markOf_7 (by decide) rfl (fun _ _ => ?_) (fun ha => by cases ha)
    refine v_ald2 (q := 15) dX9_markOf_14 rfl rfl ?_
    refine v_getI (q := 18) dX9_markOf_15 rfl gf_X9_114_5 (by assumption) ?_
    refine v_iret dX9_markOf_18 rfl ?_
    exact hQ
  · have er := h2 hi
    subst er
    have e : aMarkOf X i = -1 := if_neg hi
    rw [e] at hQ
    refine v_ast2 (q := 6) dX9_markOf_5 rfl (by decide) rfl rfl ?_
    refine v_ald2 (q := 7) dX9_markOf_6 rfl rfl ?_
    refine v_ifnonnull (r := none) (t := 14) (q := 10) dX9_markOf_7 (by decide) rfl (fun a ha => by cases ha) (fun _ => ?_)
    refine v_iconst (q := 11) (v := -1) dX9_markOf_10 rfl (by decide) ?_
    refine v_goto (q := 18) dX9_markOf_11 (by decide) ?_
    refine v_iret dX9_markOf_18 rfl ?_
    exact hQ
end L86
