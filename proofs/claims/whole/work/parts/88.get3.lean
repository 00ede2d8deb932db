/-! 88: WindowMill: row, gave, gaveValue; where stages, ports and sources are -/
def RwB (r : Rw) : Prop := VB r.2.2.2.1 r.2.2.2.2.1 ∧ r.2.2.1 < 1000 ∧ r.2.1 < 16
def rowA (r : Rw) (w : Int32) : Int32 := if w = 0 then (if r.1 then 1 else 0) else if w = 1 then nI r.2.1 else if w = 2 then nI r.2.2.1 else if w = 3 then r.2.2.2.1 else if w = 4 then r.2.2.2.2.1 else -1
def aRow (X : Sg) (i w : Int32) : Int32 := if i < 0 then -1 else (((xR X)[i.toNatClampNeg]?).map (fun r => rowA r w)).getD (-1)
def onS {α : Type} (X : Sg) (i : Int32) (f : Stg → α) (z : α) : α := if 0 ≤ i ∧ i < nI (xM X) then f (xS X i.toNatClampNeg) else z
def aGave (X : Sg) (i w : Int32) : Int32 := onS X i (fun S => if isW S = true ∨ gI S 8 = 0 then -1 else if w = 0 then gI S 9 else if w = 1 then gI S 10 else -1) (-1)
def aGaveV (X : Sg) (i : Int32) : Int64 := onS X i (fun S => if isW S = true ∨ gI S 8 = 0 then 0 else gV S) 0
section L88
variable {g : Gl} {d : Nat} {h : Hp} {Q : Option Value → Hp → Prop} {ow : Nat → Nat} {c lg SA ST WY : Nat} {po sp us uz : Nat → Nat} {X : Sg}
theorem onS_in {α : Type} {j : Nat} {f : Stg → α} {z : α} (hm : xM X ≤ 16) (hj : j < xM X) : onS X (nI j) f z = f (xS X j) := by
  unfold onS
  rw [if_pos ⟨nI_pos' (by omega), nI_lt hj (by omega)⟩, nI_clamp (by omega)]
theorem onS_out {α : Type} {i : Int32} {f : Stg → α} {z : α} (hi : ¬ (0 ≤ i ∧ i < nI (xM X))) : onS X i f z = z := if_neg hi
theorem mv_stageAt {i : Int32} (hM : MV g h ow c lg SA ST WY po sp X us uz) (h1 : ∀ j, i = nI j → j < xM X → Q (some (.ref (sp j))) h) (h0 : ¬ (0 ≤ i ∧ i < nI (xM X)) → Q (some .null) h) : Call g mX9_stageAt d [.ref c, .int i] h Q := by
  obtain ⟨⟨a1, a2, a3, a4, a5, a6, a7, a8⟩, ⟨b1, b2, b3, b4, b5, b6, _⟩, hP, hS, h16, _⟩ := hM
  refine k_stageAt a1 a4 a7 b4 b5 h16 (fun r q1 q2 => ?_)
  by_cases hi : 0 ≤ i ∧ i < nI (xM X)
  · obtain ⟨j, hj, rfl⟩ := nI_of (Int32.not_lt.mpr hi.1)
    have hjm : j < xM X := Classical.byContradiction fun q => absurd hi.2 (nI_nlt (by omega) (by omega))
    have er := q1 j rfl hjm
    rw [((hS j (by omega)).1 hjm).1] at er
    subst er
    exact h1 j rfl hjm
  · have er := q2 hi
    subst er
    exact h0 hi
theorem mv_portAt {i : Int32} (hM : MV g h ow c lg SA ST WY po sp X us uz) (h1 : ∀ j, i = nI j → j < 8 → Q (some (.ref (po j))) h) (h0 : ¬ (0 ≤ i ∧ i ≤ 7) → Q (some .null) h) : Call g mX9_portAt (d + 2) [.ref c, .int i] h Q := by
  obtain ⟨⟨a1, a2, a3, a4, a5, a6, a7, a8⟩, ⟨b1, b2, b3, _⟩, hP, _⟩ := hM
  refine k_portAt (d := d) a1 a3 b1 b2 (fun r q1 q2 => ?_)
  by_cases hi : 0 ≤ i ∧ i ≤ 7
  · obtain ⟨j, hj, rfl⟩ := nI_of (Int32.not_lt.mpr hi.1)
    have hj8 : j < 8 := Classical.byContradiction fun q => absurd hi.2 (show ¬ nI j ≤ nI 7 from nI_ge (by omega) hj)
    have er := q1 j rfl hj8
    rw [(hP j hj8).1] at er
    subst er
    exact h1 j rfl hj8
  · have er := q2 hi
    subst er
    exact h0 hi
theorem mv_sourceAt {i : Int32} (hM : MV g h ow c lg SA ST WY po sp X us uz) (h1 : ∀ j, i = nI j → j < 8 → Q (some (.ref (po j))) h) (h2 : ∀ j, i = nI (8 + j) → j < xM X → Q (some (.ref (sp j))) h) (h0 : ¬ (0 ≤ i ∧ i < nI (8 + xM X)) → Q (some .null) h) : Call g mX9_sourceAt d [.ref c, .int i] h Q := by
  obtain ⟨⟨a1, a2, a3, a4, a5, a6, a7, a8⟩, ⟨b1, b2, b3, _⟩, hP, hS, h16, _⟩ := hM
  refine k_sourceAt a1 a3 b1 b2 (fun r q1 q2 => ?_)
  by_cases hi : 0 ≤ i ∧ i < nI 24
  · obtain ⟨j, hj, rfl⟩ := nI_of (Int32.not_lt.mpr hi.1)
    have hj24 : j < 24 := Classical.byContradiction fun q => absurd hi.2 (nI_nlt (by omega) (by omega))
    have er := q1 j rfl hj24
    by_cases h8 : j < 8
    · rw [(hP j h8).1] at er
      subst er
      exact h1 j rfl h8
    · obtain ⟨t, rfl⟩ : ∃ t, j = 8 + t := ⟨j - 8, by omega⟩
      by_cases ht : t < xM X
      · rw [((hS t (by omega)).1 ht).2.1] at er
        subst er
        exact h2 t rfl ht
      · rw [((hS t (by omega)).2 (by omega)).2] at er
        subst er
        exact h0 (fun q => absurd q.2 (nI_nlt (by omega) (by omega)))
  · have er := q2 hi
    subst er
    refine h0 (fun q => hi ⟨q.1, ?_⟩)
    obtain ⟨q1, q2⟩ := q
    have e24 : (nI 24).toInt = 24 := by decide
    have e8 : (nI (8 + xM X)).toInt = ((8 + xM X : Nat) : Int) := nI_toInt (by omega)
    rw [fa_lt] at q2 ⊢
    omega
theorem w_out5 {w : Int32} (h0 : ¬ w = 0) (h1 : ¬ w = 1) (h2 : ¬ w = 2) (h3 : ¬ w = 3) (h4 : ¬ w = 4) : w.toInt < 0 ∨ 4 < w.toInt := by
  rw [fa_eq] at h0 h1 h2 h3 h4
  have e0 : (0 : Int32).toInt = 0 := by decide
  have e1 : (1 : Int32).toInt = 1 := by decide
  have e2 : (2 : Int32).toInt = 2 := by decide
  have e3 : (3 : Int32).toInt = 3 := by decide
  have e4 : (4 : Int32).toInt = 4 := by decide
  omega
theorem k_row {i w : Int32} (hM : MV g h ow c lg SA ST WY po sp X us uz) (hB : ∀ r ∈ xR X, RwB r) (hQ : Q (some (.int (aRow X i w))) h) : Call g mX9_row (d + 2) [.ref c, .int i, .int w] h Q := by
  obtain ⟨⟨a1, a2, a3, a4, a5, a6, a7, a8⟩, _, _, _, _, hL, _⟩ := hM
  have kl := hL.kd
  have k4 : hK h lg = 4 := kl.1
  refine Call.of [.ref c, .int i, .int w, zz, zz, zz, zz] (by decide) (Nat.le_of_ble_eq_true rfl) rfl ?_
  refine v_ald0 (q := 1) dX9_row_0 rfl rfl ?_
  refine v_getR (q := 4) dX9_row_1 rfl gf_X9_28_8 (by assumption) (by assumption) ?_
  refine v_ild1 (q := 5) dX9_row_4 rfl ?_
  refine v_callV (q := 8) (d' := d + 1) (av := [.int i]) dX9_row_5 rfl ok_X3_holds CL3 ml_X9_121 im_X3_holds se_X3_holds (by assumption) (by omega) rfl rfl (Nat.le_of_ble_eq_true rfl) ?_
  refine k_logHolds kl.1 kl.2.1 ?_
  by_cases hi : 0 ≤ i ∧ i < nI (xR X).length
  · rw [b01_t hi]
    obtain ⟨j, hj, rfl⟩ := nI_of (Int32.not_lt.mpr hi.1)
    have hjl : j < (xR X).length := Classical.byContradiction fun q => absurd hi.2 (nI_nlt (by omega) (by omega))
    have hr : (xR X)[j]? = some (xR X)[j] := List.getElem?_eq_getElem hjl
    have hb := hB _ (List.getElem_mem hjl)
    generalize (xR X)[j] = r at hr hb
    have eR : aRow X (nI j) w = rowA r w := by
      unfold aRow
      rw [if_neg (Int32.not_lt.mpr hi.1), nI_clamp (by omega), hr]
      rfl
    rw [eR] at hQ
    obtain ⟨bk, s, k, b, e, y⟩ := r
    obtain ⟨hv, hk, hs⟩ := hb
    obtain ⟨r1, r2, r3⟩ := rcode_dec (bk := bk) (y := y) hv hk hs
    obtain ⟨t1, t2, t3⟩ := slot_dec hv hk
    refine v_if_ne (t := 13) (q := 11) dX9_row_8 (by decide) rfl (fun _ => ?_) (fun hc => absurd hc (by decide))
    refine v_ald0 (q := 14) dX9_row_13 rfl rfl ?_
    refine v_getR (q := 17) dX9_row_14 rfl gf_X9_28_8 (by assumption) (by assumption) ?_
    refine v_ild1 (q := 18) dX9_row_17 rfl ?_
    refine v_callV (q := 21) (d' := d + 1) (av := [.int (nI j)]) dX9_row_18 rfl ok_X3_codeAt CL3 ml_X9_124 im_X3_codeAt se_X3_codeAt (by assumption) (by omega) rfl rfl (Nat.le_of_ble_eq_true rfl) ?_
    refine k_codeV (d := d) hL hr ?_
    refine v_lst3 (q := 22) dX9_row_21 rfl (by decide) rfl ?_
    refine v_lld3 (q := 23) dX9_row_22 rfl ?_
    refine v_callS (q := 26) (d' := d + 1) (av := [.long (rcode (bk, s, k, b, e, y))]) dX9_row_23 rfl ok_X0_slotOf ml_X9_128 st_X0_slotOf (by omega) rfl rfl (Nat.le_of_ble_eq_true rfl) ?_
    refine k_slotOf ?_
    rw [r3]
    refine v_lst5 (q := 28) dX9_row_26 rfl (by decide) rfl ?_
    refine v_ild2 (q := 29) dX9_row_28 rfl ?_
    by_cases h0 : w = 0
    · subst h0
      refine v_tableIn 0 (t := 64) dX9_row_29 (by decide) (by decide) rfl (by decide) ?_
      refine v_lld3 (q := 65) dX9_row_64 rfl ?_
      refine v_callS (q := 68) (d' := d + 1) (av := [.long (rcode (bk, s, k, b, e, y))]) dX9_row_65 rfl ok_X0_isBack ml_X9_134 st_X0_isBack (by omega) rfl rfl (Nat.le_of_ble_eq_true rfl) ?_
      refine k_isBack ?_
      by_cases hz : rcode (bk, s, k, b, e, y) &&& 1 = 0
      · rw [if_pos hz]
        refine v_if_eq (t := 75) (q := 71) dX9_row_68 (by decide) rfl (fun _ => ?_) (fun hc => absurd rfl hc)
        refine v_iconst (q := 76) (v := 0) dX9_row_75 rfl (by decide) ?_
        refine v_iret dX9_row_76 rfl ?_
        rw [r1.mp hz] at hQ
        exact hQ
      · rw [if_neg hz]
        refine v_if_eq (t := 75) (q := 71) dX9_row_68 (by decide) rfl (fun hc => absurd hc (by decide)) (fun _ => ?_)
        refine v_iconst (q := 72) (v := 1) dX9_row_71 rfl (by decide) ?_
        refine v_goto (q := 76) dX9_row_72 (by decide) ?_
        refine v_iret dX9_row_76 rfl ?_
        cases bk with
        | false => exact absurd (r1.mpr rfl) hz
        | true => exact hQ
    by_cases h1 : w = 1
    · subst h1
      refine v_tableIn 1 (t := 77) dX9_row_29 (by decide) (by decide) rfl (by decide) ?_
      refine v_lld3 (q := 78) dX9_row_77 rfl ?_
      refine v_callS (q := 81) (d' := d + 1) (av := [.long (rcode (bk, s, k, b, e, y))]) dX9_row_78 rfl ok_X0_stageOf ml_X9_138 st_X0_stageOf (by omega) rfl rfl (Nat.le_of_ble_eq_true rfl) ?_
      refine k_stageOf ?_
      rw [r2]
      refine v_iret dX9_row_81 rfl ?_
      exact hQ
    by_cases h2 : w = 2
    · subst h2
      refine v_tableIn 2 (t := 82) dX9_row_29 (by decide) (by decide) rfl (by decide) ?_
      refine v_lld5 (q := 84) dX9_row_82 rfl ?_
      refine v_callS (q := 87) (d' := d + 1) (av := [.long (cSlot (nI k) b e)]) dX9_row_84 rfl ok_X0_keyOf ml_X9_142 st_X0_keyOf (by omega) rfl rfl (Nat.le_of_ble_eq_true rfl) ?_
      refine k_keyOf ?_
      rw [t1]
      refine v_iret dX9_row_87 rfl ?_
      exact hQ
    by_cases h3 : w = 3
    · subst h3
      refine v_tableIn 3 (t := 88) dX9_row_29 (by decide) (by decide) rfl (by decide) ?_
      refine v_lld5 (q := 90) dX9_row_88 rfl ?_
      refine v_callS (q := 93) (d' := d + 1) (av := [.long (cSlot (nI k) b e)]) dX9_row_90 rfl ok_X0_beginOf ml_X9_145 st_X0_beginOf (by omega) rfl rfl (Nat.le_of_ble_eq_true rfl) ?_
      refine k_beginOf ?_
      rw [t2]
      refine v_iret dX9_row_93 rfl ?_
      exact hQ
    by_cases h4 : w = 4
    · subst h4
      refine v_tableIn 4 (t := 94) dX9_row_29 (by decide) (by decide) rfl (by decide) ?_
      refine v_lld5 (q := 96) dX9_row_94 rfl ?_
      refine v_callS (q := 99) (d' := d + 1) (av := [.long (cSlot (nI k) b e)]) dX9_row_96 rfl ok_X0_endOf ml_X9_148 st_X0_endOf (by omega) rfl rfl (Nat.le_of_ble_eq_true rfl) ?_
      refine k_endOf ?_
      rw [t3]
      refine v_iret dX9_row_99 rfl ?_
      exact hQ
    refine v_tableOut (t := 100) dX9_row_29 (w_out5 h0 h1 h2 h3 h4) (by decide) ?_
    refine v_iconst (q := 101) (v := -1) dX9_row_100 rfl (by decide) ?_
    refine v_iret dX9_row_101 rfl ?_
    unfold rowA at hQ
    rw [if_neg h0, if_neg h1, if_neg h2, if_neg h3, if_neg h4] at hQ
    exact hQ
  · rw [b01_f hi]
    refine v_if_ne (t := 13) (q := 11) dX9_row_8 (by decide) rfl (fun hc => absurd rfl hc) (fun _ => ?_)
    refine v_iconst (q := 12) (v := -1) dX9_row_11 rfl (by decide) ?_
    refine v_iret dX9_row_12 rfl ?_
    have e : aRow X i w = -1 := by
      unfold aRow
      by_cases h0 : i < 0
      · rw [if_pos h0]
      · rw [if_neg h0]
        obtain ⟨j, hj, rfl⟩ := nI_of h0
        rw [nI_clamp (by omega)]
        have : (xR X).length ≤ j := Classical.byContradiction fun q => hi ⟨nI_pos' (by omega), nI_lt (by omega) (by omega)⟩
        rw [List.getElem?_eq_none this]
        rfl
    rw [e] at hQ
    exact hQ
theorem k_gave {i w : Int32} (hM : MV g h ow c lg SA ST WY po sp X us uz) (hQ : Q (some (.int (aGave X i w))) h) : Call g mX9_gave (d + 1) [.ref c, .int i, .int w] h Q := by
  refine Call.of [.ref c, .int i, .int w, zz, zz] (by decide) (Nat.le_of_ble_eq_true rfl) rfl ?_
  have a1 : hK h c = 9 := hM.1.1
  refine v_ald0 (q := 1) dX9_gave_0 rfl rfl ?_
  refine v_ild1 (q := 2) dX9_gave_1 rfl ?_
  refine v_callV (q := 5) (d' := d) (av := [.int i]) dX9_gave_2 rfl ok_X9_stageAt CL8 ml_X9_51 im_X9_stageAt se_X9_stageAt (by assumption) (by omega) rfl rfl (Nat.le_of_ble_eq_true rfl) ?_
  refine mv_stageAt hM (fun j hij hj => ?_) (fun hi => ?_)
  · subst hij
    have hS := ((hM.2.2.2.1 j (Nat.lt_of_lt_of_le hj hM.2.2.2.2.1)).1 hj).2.2
    unfold aGave at hQ
    rw [onS_in hM.2.2.2.2.1 hj] at hQ
    refine v_ast4 (q := 7) dX9_gave_5 rfl (by decide) rfl rfl ?_
    refine v_ald4 (q := 9) dX9_gave_7 rfl rfl ?_
    rcases hS.2 with ⟨w1, w2, _⟩ | ⟨w1, w2, w3, w4, w5, w6, w7, w8, w9, _⟩
    · rw [if_pos (Or.inl w1)] at hQ
      refine v_instNo (q := 12) dX9_gave_9 rfl CL7 cl_X9_46 (by decide) w2 ?_
      refine v_if_eq (t := 28) (q := 15) dX9_gave_12 (by decide) rfl (fun _ => ?_) (fun hc => absurd rfl hc)
      refine v_iconst (q := 29) (v := -1) dX9_gave_28 rfl (by decide) ?_
      refine v_iret dX9_gave_29 rfl ?_
      exact hQ
    · refine v_inst (q := 12) dX9_gave_9 rfl CL4 cl_X9_46 w2 ?_
      refine v_if_eq (t := 28) (q := 15) dX9_gave_12 (by decide) rfl (fun hc => absurd hc (by decide)) (fun _ => ?_)
      refine v_ald4 (q := 17) dX9_gave_15 rfl rfl ?_
      refine v_cast (q := 20) dX9_gave_17 rfl CL4 cl_X9_46 w2 ?_
      refine v_ast3 (q := 21) dX9_gave_20 rfl (by decide) rfl rfl ?_
      refine v_ald3 (q := 22) dX9_gave_21 rfl rfl ?_
      refine v_getI (q := 25) dX9_gave_22 rfl gf_X9_174_4 (by assumption) ?_
      rw [w6]
      by_cases hz : gI (xS X j) 8 = 0
      · rw [if_pos (Or.inr hz)] at hQ
        refine v_if_ne (t := 30) (q := 28) dX9_gave_25 (by decide) rfl (fun hc => absurd hz hc) (fun _ => ?_)
        refine v_iconst (q := 29) (v := -1) dX9_gave_28 rfl (by decide) ?_
        refine v_iret dX9_gave_29 rfl ?_
        exact hQ
      · rw [if_neg (fun q => q.elim (fun q => by rw [w1] at q; cases q) hz)] at hQ
        refine v_if_ne (t := 30) (q := 28) dX9_gave_25 (by decide) rfl (fun _ => ?_) (fun hc => absurd hc hz)
        refine v_ild2 (q := 31) dX9_gave_30 rfl ?_
        by_cases h0 : w = 0
        · subst h0
          refine v_lookup (t := 56) dX9_gave_31 (by decide) (off := 25) (by decide) (by decide) ?_
          refine v_ald3 (q := 57) dX9_gave_56 rfl rfl ?_
          refine v_getI (q := 60) dX9_gave_57 rfl gf_X9_177_4 (by assumption) ?_
          rw [w7]
          refine v_iret dX9_gave_60 rfl ?_
          exact hQ
        rw [if_neg h0] at hQ
        by_cases h1 : w = 1
        · subst h1
          refine v_lookup (t := 61) dX9_gave_31 (by decide) (off := 30) (by decide) (by decide) ?_
          refine v_ald3 (q := 62) dX9_gave_61 rfl rfl ?_
          refine v_getI (q := 65) dX9_gave_62 rfl gf_X9_180_4 (by assumption) ?_
          rw [w8]
          refine v_iret dX9_gave_65 rfl ?_
          exact hQ
        rw [if_neg h1] at hQ
        refine v_lookup (t := 66) dX9_gave_31 (by decide) (off := 35) ?_ (by decide) ?_
        · rw [fa_eq] at h0 h1
          have e0 : (0 : Int32).toInt = 0 := by decide
          have e1 : (1 : Int32).toInt = 1 := by decide
          rw [e0] at h0
          rw [e1] at h1
          have h0' : (w.toInt == 0) = false := by simpa using h0
          have h1' : (w.toInt == 1) = false := by simpa using h1
          show Op.lookupswitch.offset [(0, 25), (1, 30)] 35 w.toInt = 35
          simp [Op.lookupswitch.offset, h0, h1, Ne.symm h0, Ne.symm h1]
        refine v_iconst (q := 67) (v := -1) dX9_gave_66 rfl (by decide) ?_
        refine v_iret dX9_gave_67 rfl ?_
        exact hQ
  · unfold aGave at hQ
    rw [onS_out hi] at hQ
    refine v_ast4 (q := 7) dX9_gave_5 rfl (by decide) rfl rfl ?_
    refine v_ald4 (q := 9) dX9_gave_7 rfl rfl ?_
    refine v_instN (q := 12) dX9_gave_9 rfl ?_
    refine v_if_eq (t := 28) (q := 15) dX9_gave_12 (by decide) rfl (fun _ => ?_) (fun hc => absurd rfl hc)
    refine v_iconst (q := 29) (v := -1) dX9_gave_28 rfl (by decide) ?_
    refine v_iret dX9_gave_29 rfl ?_
    exact hQ
theorem k_gaveValue {i : Int32} (hM : MV g h ow c lg SA ST WY po sp X us uz) (hQ : Q (some (.long (aGaveV X i))) h) : Call g mX9_gaveValue (d + 1) [.ref c, .int i] h Q := by
  refine Call.of [.ref c, .int i, zz, zz] (by decide) (Nat.le_of_ble_eq_true rfl) rfl ?_
  have a1 : hK h c = 9 := hM.1.1
  refine v_ald0 (q := 1) dX9_gaveValue_0 rfl rfl ?_
  refine v_ild1 (q := 2) dX9_gaveValue_1 rfl ?_
  refine v_callV (q := 5) (d' := d) (av := [.int i]) dX9_gaveValue_2 rfl ok_X9_stageAt CL8 ml_X9_51 im_X9_stageAt se_X9_stageAt (by assumption) (by omega) rfl rfl (Nat.le_of_ble_eq_true rfl) ?_
  refine mv_stageAt hM (fun j hij hj => ?_) (fun hi => ?_)
  · subst hij
    have hS := ((hM.2.2.2.1 j (Nat.lt_of_lt_of_le hj hM.2.2.2.2.1)).1 hj).2.2
    unfold aGaveV at hQ
    rw [onS_in hM.2.2.2.2.1 hj] at hQ
    refine v_ast3 (q := 6) dX9_gaveValue_5 rfl (by decide) rfl rfl ?_
    refine v_ald3 (q := 7) dX9_gaveValue_6 rfl rfl ?_
    rcases hS.2 with ⟨w1, w2, _⟩ | ⟨w1, w2, w3, w4, w5, w6, w7, w8, w9, _⟩
    · rw [if_pos (Or.inl w1)] at hQ
      refine v_instNo (q := 10) dX9_gaveValue_7 rfl CL7 cl_X9_46 (by decide) w2 ?_
      refine v_if_eq (t := 32) (q := 13) dX9_gaveValue_10 (by decide) rfl (fun _ => ?_) (fun hc => absurd rfl hc)
      refine v_lconst (q := 33) (v := 0) dX9_gaveValue_32 rfl (by decide) ?_
      refine v_lret dX9_gaveValue_33 rfl ?_
      exact hQ
    · refine v_inst (q := 10) dX9_gaveValue_7 rfl CL4 cl_X9_46 w2 ?_
      refine v_if_eq (t := 32) (q := 13) dX9_gaveValue_10 (by decide) rfl (fun hc => absurd hc (by decide)) (fun _ => ?_)
      refine v_ald3 (q := 14) dX9_gaveValue_13 rfl rfl ?_
      refine v_cast (q := 17) dX9_gaveValue_14 rfl CL4 cl_X9_46 w2 ?_
      refine v_ast2 (q := 18) dX9_gaveValue_17 rfl (by decide) rfl rfl ?_
      refine v_ald2 (q := 19) dX9_gaveValue_18 rfl rfl ?_
      refine v_getI (q := 22) dX9_gaveValue_19 rfl gf_X9_174_4 (by assumption) ?_
      rw [w6]
      by_cases hz : gI (xS X j) 8 = 0
      · rw [if_pos (Or.inr hz)] at hQ
        refine v_if_eq (t := 32) (q := 25) dX9_gaveValue_22 (by decide) rfl (fun _ => ?_) (fun hc => absurd hz hc)
        refine v_lconst (q := 33) (v := 0) dX9_gaveValue_32 rfl (by decide) ?_
        refine v_lret dX9_gaveValue_33 rfl ?_
        exact hQ
      · rw [if_neg (fun q => q.elim (fun q => by rw [w1] at q; cases q) hz)] at hQ
        refine v_if_eq (t := 32) (q := 25) dX9_gaveValue_22 (by decide) rfl (fun hc => absurd hc hz) (fun _ => ?_)
        refine v_ald2 (q := 26) dX9_gaveValue_25 rfl rfl ?_
        refine v_getL (q := 29) dX9_gaveValue_26 rfl gf_X9_183_4 (by assumption) ?_
        rw [w9]
        refine v_goto (q := 33) dX9_gaveValue_29 (by decide) ?_
        refine v_lret dX9_gaveValue_33 rfl ?_
        exact hQ
  · unfold aGaveV at hQ
    rw [onS_out hi] at hQ
    refine v_ast3 (q := 6) dX9_gaveValue_5 rfl (by decide) rfl rfl ?_
    refine v_ald3 (q := 7) dX9_gaveValue_6 rfl rfl ?_
    refine v_instN (q := 10) dX9_gaveValue_7 rfl ?_
    refine v_if_eq (t := 32) (q := 13) dX9_gaveValue_10 (by decide) rfl (fun _ => ?_) (fun hc => absurd rfl hc)
    refine v_lconst (q := 33) (v := 0) dX9_gaveValue_32 rfl (by decide) ?_
    refine v_lret dX9_gaveValue_33 rfl ?_
    exact hQ
end L88
