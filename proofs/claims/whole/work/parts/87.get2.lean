/-! 87: WindowMill: left -/
def aLeft (X : Sg) (i : Int32) : Int32 := if 0 ≤ i ∧ i < nI (xM X) then (if isW (xS X i.toNatClampNeg) then nI (sm cR (gL (xS X i.toNatClampNeg))) else -2) else -1
section L87
variable {g : Gl} {d : Nat} {h : Hp} {Q : Option Value → Hp → Prop} {ow : Nat → Nat} {c lg SA ST WY : Nat} {po sp us uz : Nat → Nat} {X : Sg}
theorem k_left {i : Int32} (hM : MV g h ow c lg SA ST WY po sp X us uz) (hQ : Q (some (.int (aLeft X i))) h) : Call g mX9_left (d + 1) [.ref c, .int i] h Q := by
  obtain ⟨⟨a1, a2, a3, a4, a5, a6, a7, a8⟩, ⟨b1, b2, b3, b4, b5, b6, _⟩, hP, hS, h16, _⟩ := hM
  refine Call.of [.ref c, .int i, zz, zz] (by decide) (Nat.le_of_ble_eq_true rfl) rfl ?_
  refine v_ald0 (q := 1) dX9_left_0 rfl rfl ?_
  refine v_ild1 (q := 2) dX9_left_1 rfl ?_
  refine v_callV (q := 5) (d' := d) (av := [.int i]) dX9_left_2 rfl ok_X9_stageAt CL8 ml_X9_51 im_X9_stageAt se_X9_stageAt (by assumption) (by omega) rfl rfl (Nat.le_of_ble_eq_true rfl) ?_
  refine k_stageAt a1 a4 a7 b4 b5 h16 (fun r h1 h2 => ?_)
  by_cases hi : 0 ≤ i ∧ i < nI (xM X)
  · obtain ⟨j, hj, rfl⟩ := nI_of (Int32.not_lt.mpr hi.1)
    have hjm : j < xM X := Classical.byContradiction fun q => absurd hi.2 (nI_nlt (by omega) (by omega))
    have er := h1 j rfl hjm
    obtain ⟨s1, s2, s3⟩ := (hS j (by omega)).1 hjm
    rw [s1] at er
    subst er
    have e : aLeft X (nI j) = if isW (xS X j) then nI (sm cR (gL (xS X j))) else -2 := by
      unfold aLeft
      rw [if_pos hi, nI_clamp (by omega)]
    rw [e] at hQ
    refine v_ast2 (q := 6) dX9_left_5 rfl (by decide) rfl rfl ?_
    refine v_ald2 (q := 7) dX9_left_6 rfl rfl ?_
    refine v_ifnonnull (r := some (sp j)) (t := 12) (q := 10) dX9_left_7 (by decide) rfl (fun _ _ => ?_) (fun ha => by cases ha)
    refine v_ald2 (q := 13) dX9_left_12 rfl rfl ?_
    rcases s3.2 with ⟨w1, w2, w3, A, q1, q2, w4⟩ | ⟨w1, w2, _⟩
    · rw [w1, if_pos rfl] at hQ
      have f26 : fI h 26 (sp j) = nI (sm cR (gL (xS X j))) := by
        obtain ⟨_, _, _, _, _, _, _, _, _, _, _, ⟨_, _, f⟩, _⟩ := w4
        exact f
      refine v_inst (q := 16) dX9_left_13 rfl CL7 cl_X9_41 w2 ?_
      refine v_if_eq (t := 31) (q := 19) dX9_left_16 (by decide) rfl (fun hc => absurd hc (by decide)) (fun _ => ?_)
      refine v_ald2 (q := 20) dX9_left_19 rfl rfl ?_
      refine v_cast (q := 23) dX9_left_20 rfl CL7 cl_X9_41 w2 ?_
      refine v_ast3 (q := 24) dX9_left_23 rfl (by decide) rfl rfl ?_
      refine v_ald3 (q := 25) dX9_left_24 rfl rfl ?_
      refine v_getI (q := 28) dX9_left_25 rfl gf_X9_154_7 (by assumption) ?_
      rw [f26]
      refine v_goto (q := 33) dX9_left_28 (by decide) ?_
      refine v_iret dX9_left_33 rfl ?_
      exact hQ
    · rw [w1, if_neg (by decide)] at hQ
      refine v_instNo (q := 16) dX9_left_13 rfl CL4 cl_X9_41 (by decide) w2 ?_
      refine v_if_eq (t := 31) (q := 19) dX9_left_16 (by decide) rfl (fun _ => ?_) (fun hc => absurd rfl hc)
      refine v_bipush (q := 33) (v := -2) dX9_left_31 rfl (by decide) ?_
      refine v_iret dX9_left_33 rfl ?_
      exact hQ
  · have er := h2 hi
    subst er
    have e : aLeft X i = -1 := if_neg hi
    rw [e] at hQ
    refine v_ast2 (q := 6) dX9_left_5 rfl (by decide) rfl rfl ?_
    refine v_ald2 (q := 7) dX9_left_6 rfl rfl ?_
    refine v_ifnonnull (r := none) (t := 12) (q := 10) dX9_left_7 (by decide) rfl (fun a ha => by cases ha) (fun _ => ?_)
    refine v_iconst (q := 11) (v := -1) dX9_left_10 rfl (by decide) ?_
    refine v_iret dX9_left_11 rfl ?_
    exact hQ
end L87
