/-! B5: the model: order -/
def lexI (a b c a' b' c' : Int32) : Bool := if a = a' then (if b = b' then decide (c < c') else decide (b < b')) else decide (a < a')
def cmpB (be : Bool) (u : Mu) (x y : Nat) : Bool := if be then lexI (mI u 22 x) (mI u 21 x) (mI u 20 x) (mI u 22 y) (mI u 21 y) (mI u 20 y) else lexI (mI u 20 x) (mI u 21 x) (mI u 22 x) (mI u 20 y) (mI u 21 y) (mI u 22 y)
def cN (F : Nat → Nat) (n y : Nat) : Nat := fb_sm (fun i => if F i = y then 1 else 0) n
theorem cN_up (F : Nat → Nat) {i n : Nat} (x y : Nat) (hi : i < n) : cN (upR F i x) n y + (if F i = y then 1 else 0) = cN F n y + (if x = y then 1 else 0) := by
  have h := fb_sm_upd (fun i => if F i = y then 1 else 0) (if x = y then 1 else 0) hi
  have e : (fun j => if upR F i x j = y then 1 else 0) = fun j => if j = i then (if x = y then 1 else 0) else (if F j = y then 1 else 0) := funext fun j => by
    by_cases ej : j = i
    · subst ej
      rw [upR_at, if_pos rfl]
    · rw [upR_ne _ _ ej, if_neg ej]
  unfold cN
  rw [e]
  exact h
theorem cN_cnt (F : Nat → Nat) (y : Nat) : ∀ n, ((List.range n).map F).count y = cN F n y := by
  intro n
  induction n with
  | zero => rfl
  | succ n ih =>
    rw [List.range_succ, List.map_append, List.count_append, ih]
    show _ + List.count y [F n] = cN F n y + _
    rw [List.count_singleton]
    by_cases e : F n = y
    · simp [e]
    · simp [e]
theorem cN_perm {F F' : Nat → Nat} {n : Nat} (h : ∀ y, cN F' n y = cN F n y) : ((List.range n).map F').Perm ((List.range n).map F) := by
  rw [List.perm_iff_count]
  intro y
  rw [cN_cnt, cN_cnt, h]
section LB5
variable {g : Gl} {d : Nat} {h : Hp} {m : Nat} {u : Mu} {Q : Option Value → Hp → Prop}
theorem q_aheadEnd {x y : Nat} (hm : MK h m) (hx : x < 48100) (hy : y < 48100) (hQ : Q (some (.int (if cmpB true u x y then 1 else 0))) (mh h m u)) : Call g mX10_isAheadByEnd d [.ref m, .int (nI x), .int (nI y)] (mh h m u) Q := by
  refine Call.of [.ref m, .int (nI x), .int (nI y)] (by decide) (Nat.le_of_ble_eq_true rfl) rfl ?_
  unfold cmpB lexI at hQ
  rw [if_pos rfl] at hQ
  refine v_ald0 (q := 1) dX10_isAheadByEnd_0 rfl rfl ?_
  refine w_ga (q := 4) (j := 22) dX10_isAheadByEnd_1 rfl hm (by decide) gf_X10_76_9 ?_
  refine v_ild1 (q := 5) dX10_isAheadByEnd_4 rfl ?_
  refine w_iald (q := 6) (n := 48100) dX10_isAheadByEnd_5 rfl hm (by decide) rfl rfl rfl (by omega) ?_
  refine v_ald0 (q := 7) dX10_isAheadByEnd_6 rfl rfl ?_
  refine w_ga (q := 10) (j := 22) dX10_isAheadByEnd_7 rfl hm (by decide) gf_X10_76_9 ?_
  refine v_ild2 (q := 11) dX10_isAheadByEnd_10 rfl ?_
  refine w_iald (q := 12) (n := 48100) dX10_isAheadByEnd_11 rfl hm (by decide) rfl rfl rfl (by omega) ?_
  by_cases h1 : mI u 22 x = mI u 22 y
  · rw [if_pos h1] at hQ
    refine v_icmp_eq (t := 36) (q := 15) dX10_isAheadByEnd_12 (by decide) rfl (fun _ => ?_) (fun hc => absurd h1 hc)
    refine v_ald0 (q := 37) dX10_isAheadByEnd_36 rfl rfl ?_
    refine w_ga (q := 40) (j := 21) dX10_isAheadByEnd_37 rfl hm (by decide) gf_X10_73_9 ?_
    refine v_ild1 (q := 41) dX10_isAheadByEnd_40 rfl ?_
    refine w_iald (q := 42) (n := 48100) dX10_isAheadByEnd_41 rfl hm (by decide) rfl rfl rfl (by omega) ?_
    refine v_ald0 (q := 43) dX10_isAheadByEnd_42 rfl rfl ?_
    refine w_ga (q := 46) (j := 21) dX10_isAheadByEnd_43 rfl hm (by decide) gf_X10_73_9 ?_
    refine v_ild2 (q := 47) dX10_isAheadByEnd_46 rfl ?_
    refine w_iald (q := 48) (n := 48100) dX10_isAheadByEnd_47 rfl hm (by decide) rfl rfl rfl (by omega) ?_
    by_cases h2 : mI u 21 x = mI u 21 y
    · rw [if_pos h2] at hQ
      refine v_icmp_eq (t := 74) (q := 51) dX10_isAheadByEnd_48 (by decide) rfl (fun _ => ?_) (fun hc => absurd h2 hc)
      refine v_ald0 (q := 75) dX10_isAheadByEnd_74 rfl rfl ?_
      refine w_ga (q := 78) (j := 20) dX10_isAheadByEnd_75 rfl hm (by decide) gf_X10_70_9 ?_
      refine v_ild1 (q := 79) dX10_isAheadByEnd_78 rfl ?_
      refine w_iald (q := 80) (n := 48100) dX10_isAheadByEnd_79 rfl hm (by decide) rfl rfl rfl (by omega) ?_
      refine v_ald0 (q := 81) dX10_isAheadByEnd_80 rfl rfl ?_
      refine w_ga (q := 84) (j := 20) dX10_isAheadByEnd_81 rfl hm (by decide) gf_X10_70_9 ?_
      refine v_ild2 (q := 85) dX10_isAheadByEnd_84 rfl ?_
      refine w_iald (q := 86) (n := 48100) dX10_isAheadByEnd_85 rfl hm (by decide) rfl rfl rfl (by omega) ?_
      by_cases h3 : mI u 20 x < mI u 20 y
      · rw [if_pos (decide_eq_true h3)] at hQ
        refine v_icmp_ge (t := 93) (q := 89) dX10_isAheadByEnd_86 (by decide) rfl (fun hc => absurd h3 (Int32.not_lt.mpr hc)) (fun _ => ?_)
        refine v_iconst (q := 90) (v := 1) dX10_isAheadByEnd_89 rfl (by decide) ?_
        refine v_goto (q := 94) dX10_isAheadByEnd_90 (by decide) ?_
        refine v_zret dX10_isAheadByEnd_94 rfl rfl ?_
        exact hQ
      · rw [if_neg (fun z => h3 (of_decide_eq_true z))] at hQ
        refine v_icmp_ge (t := 93) (q := 89) dX10_isAheadByEnd_86 (by decide) rfl (fun _ => ?_) (fun hc => absurd (Int32.not_lt.mp h3) hc)
        refine v_iconst (q := 94) (v := 0) dX10_isAheadByEnd_93 rfl (by decide) ?_
        refine v_zret dX10_isAheadByEnd_94 rfl rfl ?_
        exact hQ
    · rw [if_neg h2] at hQ
      refine v_icmp_eq (t := 74) (q := 51) dX10_isAheadByEnd_48 (by decide) rfl (fun hc => absurd hc h2) (fun _ => ?_)
      refine v_ald0 (q := 52) dX10_isAheadByEnd_51 rfl rfl ?_
      refine w_ga (q := 55) (j := 21) dX10_isAheadByEnd_52 rfl hm (by decide) gf_X10_73_9 ?_
      refine v_ild1 (q := 56) dX10_isAheadByEnd_55 rfl ?_
      refine w_iald (q := 57) (n := 48100) dX10_isAheadByEnd_56 rfl hm (by decide) rfl rfl rfl (by omega) ?_
      refine v_ald0 (q := 58) dX10_isAheadByEnd_57 rfl rfl ?_
      refine w_ga (q := 61) (j := 21) dX10_isAheadByEnd_58 rfl hm (by decide) gf_X10_73_9 ?_
      refine v_ild2 (q := 62) dX10_isAheadByEnd_61 rfl ?_
      refine w_iald (q := 63) (n := 48100) dX10_isAheadByEnd_62 rfl hm (by decide) rfl rfl rfl (by omega) ?_
      by_cases h3 : mI u 21 x < mI u 21 y
      · rw [if_pos (decide_eq_true h3)] at hQ
        refine v_icmp_ge (t := 70) (q := 66) dX10_isAheadByEnd_63 (by decide) rfl (fun hc => absurd h3 (Int32.not_lt.mpr hc)) (fun _ => ?_)
        refine v_iconst (q := 67) (v := 1) dX10_isAheadByEnd_66 rfl (by decide) ?_
        refine v_goto (q := 94) dX10_isAheadByEnd_67 (by decide) ?_
        refine v_zret dX10_isAheadByEnd_94 rfl rfl ?_
        exact hQ
      · rw [if_neg (fun z => h3 (of_decide_eq_true z))] at hQ
        refine v_icmp_ge (t := 70) (q := 66) dX10_isAheadByEnd_63 (by decide) rfl (fun _ => ?_) (fun hc => absurd (Int32.not_lt.mp h3) hc)
        refine v_iconst (q := 71) (v := 0) dX10_isAheadByEnd_70 rfl (by decide) ?_
        refine v_goto (q := 94) dX10_isAheadByEnd_71 (by decide) ?_
        refine v_zret dX10_isAheadByEnd_94 rfl rfl ?_
        exact hQ
  · rw [if_neg h1] at hQ
    refine v_icmp_eq (t := 36) (q := 15) dX10_isAheadByEnd_12 (by decide) rfl (fun hc => absurd hc h1) (fun _ => ?_)
    refine v_ald0 (q := 16) dX10_isAheadByEnd_15 rfl rfl ?_
    refine w_ga (q := 19) (j := 22) dX10_isAheadByEnd_16 rfl hm (by decide) gf_X10_76_9 ?_
    refine v_ild1 (q := 20) dX10_isAheadByEnd_19 rfl ?_
    refine w_iald (q := 21) (n := 48100) dX10_isAheadByEnd_20 rfl hm (by decide) rfl rfl rfl (by omega) ?_
    refine v_ald0 (q := 22) dX10_isAheadByEnd_21 rfl rfl ?_
    refine w_ga (q := 25) (j := 22) dX10_isAheadByEnd_22 rfl hm (by decide) gf_X10_76_9 ?_
    refine v_ild2 (q := 26) dX10_isAheadByEnd_25 rfl ?_
    refine w_iald (q := 27) (n := 48100) dX10_isAheadByEnd_26 rfl hm (by decide) rfl rfl rfl (by omega) ?_
    by_cases h3 : mI u 22 x < mI u 22 y
    · rw [if_pos (decide_eq_true h3)] at hQ
      refine v_icmp_ge (t := 34) (q := 30) dX10_isAheadByEnd_27 (by decide) rfl (fun hc => absurd h3 (Int32.not_lt.mpr hc)) (fun _ => ?_)
      refine v_iconst (q := 31) (v := 1) dX10_isAheadByEnd_30 rfl (by decide) ?_
      refine v_goto (q := 35) dX10_isAheadByEnd_31 (by decide) ?_
      refine v_zret dX10_isAheadByEnd_35 rfl rfl ?_
      exact hQ
    · rw [if_neg (fun z => h3 (of_decide_eq_true z))] at hQ
      refine v_icmp_ge (t := 34) (q := 30) dX10_isAheadByEnd_27 (by decide) rfl (fun _ => ?_) (fun hc => absurd (Int32.not_lt.mp h3) hc)
      refine v_iconst (q := 35) (v := 0) dX10_isAheadByEnd_34 rfl (by decide) ?_
      refine v_zret dX10_isAheadByEnd_35 rfl rfl ?_
      exact hQ
theorem q_aheadKey {x y : Nat} (hm : MK h m) (hx : x < 48100) (hy : y < 48100) (hQ : Q (some (.int (if cmpB false u x y then 1 else 0))) (mh h m u)) : Call g mX10_isAheadByKey d [.ref m, .int (nI x), .int (nI y)] (mh h m u) Q := by
  refine Call.of [.ref m, .int (nI x), .int (nI y)] (by decide) (Nat.le_of_ble_eq_true rfl) rfl ?_
  unfold cmpB lexI at hQ
  rw [if_neg (show ¬ false = true by decide)] at hQ
  refine v_ald0 (q := 1) dX10_isAheadByKey_0 rfl rfl ?_
  refine w_ga (q := 4) (j := 20) dX10_isAheadByKey_1 rfl hm (by decide) gf_X10_70_9 ?_
  refine v_ild1 (q := 5) dX10_isAheadByKey_4 rfl ?_
  refine w_iald (q := 6) (n := 48100) dX10_isAheadByKey_5 rfl hm (by decide) rfl rfl rfl (by omega) ?_
  refine v_ald0 (q := 7) dX10_isAheadByKey_6 rfl rfl ?_
  refine w_ga (q := 10) (j := 20) dX10_isAheadByKey_7 rfl hm (by decide) gf_X10_70_9 ?_
  refine v_ild2 (q := 11) dX10_isAheadByKey_10 rfl ?_
  refine w_iald (q := 12) (n := 48100) dX10_isAheadByKey_11 rfl hm (by decide) rfl rfl rfl (by omega) ?_
  by_cases h1 : mI u 20 x = mI u 20 y
  · rw [if_pos h1] at hQ
    refine v_icmp_eq (t := 36) (q := 15) dX10_isAheadByKey_12 (by decide) rfl (fun _ => ?_) (fun hc => absurd h1 hc)
    refine v_ald0 (q := 37) dX10_isAheadByKey_36 rfl rfl ?_
    refine w_ga (q := 40) (j := 21) dX10_isAheadByKey_37 rfl hm (by decide) gf_X10_73_9 ?_
    refine v_ild1 (q := 41) dX10_isAheadByKey_40 rfl ?_
    refine w_iald (q := 42) (n := 48100) dX10_isAheadByKey_41 rfl hm (by decide) rfl rfl rfl (by omega) ?_
    refine v_ald0 (q := 43) dX10_isAheadByKey_42 rfl rfl ?_
    refine w_ga (q := 46) (j := 21) dX10_isAheadByKey_43 rfl hm (by decide) gf_X10_73_9 ?_
    refine v_ild2 (q := 47) dX10_isAheadByKey_46 rfl ?_
    refine w_iald (q := 48) (n := 48100) dX10_isAheadByKey_47 rfl hm (by decide) rfl rfl rfl (by omega) ?_
    by_cases h2 : mI u 21 x = mI u 21 y
    · rw [if_pos h2] at hQ
      refine v_icmp_eq (t := 74) (q := 51) dX10_isAheadByKey_48 (by decide) rfl (fun _ => ?_) (fun hc => absurd h2 hc)
      refine v_ald0 (q := 75) dX10_isAheadByKey_74 rfl rfl ?_
      refine w_ga (q := 78) (j := 22) dX10_isAheadByKey_75 rfl hm (by decide) gf_X10_76_9 ?_
      refine v_ild1 (q := 79) dX10_isAheadByKey_78 rfl ?_
      refine w_iald (q := 80) (n := 48100) dX10_isAheadByKey_79 rfl hm (by decide) rfl rfl rfl (by omega) ?_
      refine v_ald0 (q := 81) dX10_isAheadByKey_80 rfl rfl ?_
      refine w_ga (q := 84) (j := 22) dX10_isAheadByKey_81 rfl hm (by decide) gf_X10_76_9 ?_
      refine v_ild2 (q := 85) dX10_isAheadByKey_84 rfl ?_
      refine w_iald (q := 86) (n := 48100) dX10_isAheadByKey_85 rfl hm (by decide) rfl rfl rfl (by omega) ?_
      by_cases h3 : mI u 22 x < mI u 22 y
      · rw [if_pos (decide_eq_true h3)] at hQ
        refine v_icmp_ge (t := 93) (q := 89) dX10_isAheadByKey_86 (by decide) rfl (fun hc => absurd h3 (Int32.not_lt.mpr hc)) (fun _ => ?_)
        refine v_iconst (q := 90) (v := 1) dX10_isAheadByKey_89 rfl (by decide) ?_
        refine v_goto (q := 94) dX10_isAheadByKey_90 (by decide) ?_
        refine v_zret dX10_isAheadByKey_94 rfl rfl ?_
        exact hQ
      · rw [if_neg (fun z => h3 (of_decide_eq_true z))] at hQ
        refine v_icmp_ge (t := 93) (q := 89) dX10_isAheadByKey_86 (by decide) rfl (fun _ => ?_) (fun hc => absurd (Int32.not_lt.mp h3) hc)
        refine v_iconst (q := 94) (v := 0) dX10_isAheadByKey_93 rfl (by decide) ?_
        refine v_zret dX10_isAheadByKey_94 rfl rfl ?_
        exact hQ
    · rw [if_neg h2] at hQ
      refine v_icmp_eq (t := 74) (q := 51) dX10_isAheadByKey_48 (by decide) rfl (fun hc => absurd hc h2) (fun _ => ?_)
      refine v_ald0 (q := 52) dX10_isAheadByKey_51 rfl rfl ?_
      refine w_ga (q := 55) (j := 21) dX10_isAheadByKey_52 rfl hm (by decide) gf_X10_73_9 ?_
      refine v_ild1 (q := 56) dX10_isAheadByKey_55 rfl ?_
      refine w_iald (q := 57) (n := 48100) dX10_isAheadByKey_56 rfl hm (by decide) rfl rfl rfl (by omega) ?_
      refine v_ald0 (q := 58) dX10_isAheadByKey_57 rfl rfl ?_
      refine w_ga (q := 61) (j := 21) dX10_isAheadByKey_58 rfl hm (by decide) gf_X10_73_9 ?_
      refine v_ild2 (q := 62) dX10_isAheadByKey_61 rfl ?_
      refine w_iald (q := 63) (n := 48100) dX10_isAheadByKey_62 rfl hm (by decide) rfl rfl rfl (by omega) ?_
      by_cases h3 : mI u 21 x < mI u 21 y
      · rw [if_pos (decide_eq_true h3)] at hQ
        refine v_icmp_ge (t := 70) (q := 66) dX10_isAheadByKey_63 (by decide) rfl (fun hc => absurd h3 (Int32.not_lt.mpr hc)) (fun _ => ?_)
        refine v_iconst (q := 67) (v := 1) dX10_isAheadByKey_66 rfl (by decide) ?_
        refine v_goto (q := 94) dX10_isAheadByKey_67 (by decide) ?_
        refine v_zret dX10_isAheadByKey_94 rfl rfl ?_
        exact hQ
      · rw [if_neg (fun z => h3 (of_decide_eq_true z))] at hQ
        refine v_icmp_ge (t := 70) (q := 66) dX10_isAheadByKey_63 (by decide) rfl (fun _ => ?_) (fun hc => absurd (Int32.not_lt.mp h3) hc)
        refine v_iconst (q := 71) (v := 0) dX10_isAheadByKey_70 rfl (by decide) ?_
        refine v_goto (q := 94) dX10_isAheadByKey_71 (by decide) ?_
        refine v_zret dX10_isAheadByKey_94 rfl rfl ?_
        exact hQ
  · rw [if_neg h1] at hQ
    refine v_icmp_eq (t := 36) (q := 15) dX10_isAheadByKey_12 (by decide) rfl (fun hc => absurd hc h1) (fun _ => ?_)
    refine v_ald0 (q := 16) dX10_isAheadByKey_15 rfl rfl ?_
    refine w_ga (q := 19) (j := 20) dX10_isAheadByKey_16 rfl hm (by decide) gf_X10_70_9 ?_
    refine v_ild1 (q := 20) dX10_isAheadByKey_19 rfl ?_
    refine w_iald (q := 21) (n := 48100) dX10_isAheadByKey_20 rfl hm (by decide) rfl rfl rfl (by omega) ?_
    refine v_ald0 (q := 22) dX10_isAheadByKey_21 rfl rfl ?_
    refine w_ga (q := 25) (j := 20) dX10_isAheadByKey_22 rfl hm (by decide) gf_X10_70_9 ?_
    refine v_ild2 (q := 26) dX10_isAheadByKey_25 rfl ?_
    refine w_iald (q := 27) (n := 48100) dX10_isAheadByKey_26 rfl hm (by decide) rfl rfl rfl (by omega) ?_
    by_cases h3 : mI u 20 x < mI u 20 y
    · rw [if_pos (decide_eq_true h3)] at hQ
      refine v_icmp_ge (t := 34) (q := 30) dX10_isAheadByKey_27 (by decide) rfl (fun hc => absurd h3 (Int32.not_lt.mpr hc)) (fun _ => ?_)
      refine v_iconst (q := 31) (v := 1) dX10_isAheadByKey_30 rfl (by decide) ?_
      refine v_goto (q := 35) dX10_isAheadByKey_31 (by decide) ?_
      refine v_zret dX10_isAheadByKey_35 rfl rfl ?_
      exact hQ
    · rw [if_neg (fun z => h3 (of_decide_eq_true z))] at hQ
      refine v_icmp_ge (t := 34) (q := 30) dX10_isAheadByKey_27 (by decide) rfl (fun _ => ?_) (fun hc => absurd (Int32.not_lt.mp h3) hc)
      refine v_iconst (q := 35) (v := 0) dX10_isAheadByKey_34 rfl (by decide) ?_
      refine v_zret dX10_isAheadByKey_35 rfl rfl ?_
      exact hQ
/-- row 36 holds F -/
def FA (v : Mu) (F : Nat → Nat) (n : Nat) : Prop := ∀ i, i < n → mI v 36 i = nI (F i)
theorem FA.up {v : Mu} {F : Nat → Nat} {n : Nat} (hF : FA v F n) (i x : Nat) : FA (sI v 36 i (nI x)) (upR F i x) n := fun j hj => by
  by_cases e : j = i
  · subst e
    rw [mI_at, upR_at]
  · rw [mI_ni _ e, upR_ne _ _ e]
    exact hF j hj
theorem cmp_scr {be : Bool} {u v : Mu} (hc : Scr u v) (x y : Nat) : cmpB be v x y = cmpB be u x y := by
  unfold cmpB
  rw [hc.1 20 (by decide), hc.1 21 (by decide), hc.1 22 (by decide)]
theorem or_in {be : Bool} {n gap k w : Nat} {ky : Nat → Int} {D : Nat → Prop} {C : Nat → Nat} (hm : MK h m) (hn : n ≤ 48100) (hg : 1 ≤ gap) (hgn : gap ≤ 48100) (hk : k < n) (hD : ∀ x, D x → x < 48100) (hcm : ∀ x y, D x → D y → cmpB be u x y = decide (ky x < ky y)) (hw : D w) :
    ∀ (t at_ : Nat) (v : Mu) (F : Nat → Nat), at_ ≤ t → at_ ≤ k → Scr u v → FA v F n → (∀ i, i < n → D (F i)) → (∀ y, cN (upR F at_ w) n y = C y) →
      (gap = 1 → (∀ i j, i < j → j < at_ → ky (F i) ≤ ky (F j)) ∧ (∀ i j, i < j → at_ < i → j ≤ k → ky (F i) ≤ ky (F j)) ∧ (∀ i j, i < at_ → at_ < j → j ≤ k → ky (F i) ≤ ky (F j)) ∧ ∀ j, at_ < j → j ≤ k → ky w < ky (F j)) →
      (∀ v' F', Scr u v' → FA v' F' n → (∀ i, i < n → D (F' i)) → (∀ y, cN F' n y = C y) → (gap = 1 → ∀ i j, i < j → j ≤ k → ky (F' i) ≤ ky (F' j)) → V g mX10_order (d + 1) 113 [.ref m, .int (nI n), .int (if be then 1 else 0), .int (nI gap), .int (nI k), zz, zz] [] (mh h m v') Q) →
      V g mX10_order (d + 1) 30 [.ref m, .int (nI n), .int (if be then 1 else 0), .int (nI gap), .int (nI k), .int (nI w), .int (nI at_)] [] (mh h m v) Q := by
  intro t
  induction t with
  | zero =>
    intro at_ v F ht hak hc hF hDF hC hS hQ
    have : at_ = 0 := by omega
    subst this
    refine v_ild6 (q := 32) dX10_order_30 rfl ?_
    refine v_ild3 (q := 33) dX10_order_32 rfl ?_
    refine v_icmp_lt (t := 104) (q := 36) dX10_order_33 (by decide) rfl (fun _ => ?_) (fun z => absurd (nI_lt (by omega) (by omega)) z)
    refine v_ald0 (q := 105) dX10_order_104 rfl rfl ?_
    refine w_ga (q := 108) (j := 36) dX10_order_105 rfl hm (by decide) gf_X10_119_9 ?_
    refine v_ild6 (q := 110) dX10_order_108 rfl ?_
    refine v_ild5 (q := 112) dX10_order_110 rfl ?_
    refine w_iast (q := 113) (n := 48100) dX10_order_112 rfl hm (by decide) rfl rfl rfl (by omega) ?_
    refine v_fg (FG.k (FG.k (FG.k (FG.k (FG.k (FG.z (FG.z FG.nil))))))) ?_
    refine hQ _ (upR F 0 w) (hc.fo _ _) (hF.up 0 w) (fun i hi => ?_) hC (fun g1 i j hij hjk => ?_)
    · by_cases e : i = 0
      · subst e
        rw [upR_at]
        exact hw
      · rw [upR_ne _ _ e]
        exact hDF i hi
    · obtain ⟨s1, s2, s3, s4⟩ := hS g1
      rw [upR_ne _ _ (show j ≠ 0 by omega)]
      by_cases e : i = 0
      · subst e
        rw [upR_at]
        have := s4 j (by omega) hjk
        omega
      · rw [upR_ne _ _ e]
        exact s2 i j hij (by omega) hjk
  | succ t ih =>
    intro at_ v F ht hak hc hF hDF hC hS hQ
    have stop : (at_ < gap ∨ (gap ≤ at_ ∧ ¬ ky w < ky (F (at_ - gap)))) → V g mX10_order (d + 1) 104 [.ref m, .int (nI n), .int (if be then 1 else 0), .int (nI gap), .int (nI k), .int (nI w), .int (nI at_)] [] (mh h m v) Q := fun hst => by
      refine v_ald0 (q := 105) dX10_order_104 rfl rfl ?_
      refine w_ga (q := 108) (j := 36) dX10_order_105 rfl hm (by decide) gf_X10_119_9 ?_
      refine v_ild6 (q := 110) dX10_order_108 rfl ?_
      refine v_ild5 (q := 112) dX10_order_110 rfl ?_
      refine w_iast (q := 113) (n := 48100) dX10_order_112 rfl hm (by decide) rfl rfl rfl (by omega) ?_
      refine v_fg (FG.k (FG.k (FG.k (FG.k (FG.k (FG.z (FG.z FG.nil))))))) ?_
      refine hQ _ (upR F at_ w) (hc.fo _ _) (hF.up at_ w) (fun i hi => ?_) hC (fun g1 i j hij hjk => ?_)
      · by_cases e : i = at_
        · subst e
          rw [upR_at]
          exact hw
        · rw [upR_ne _ _ e]
          exact hDF i hi
      · obtain ⟨s1, s2, s3, s4⟩ := hS g1
        subst g1
        by_cases ei : i = at_
        · subst ei
          rw [upR_at, upR_ne _ _ (show j ≠ i by omega)]
          have := s4 j hij hjk
          omega
        · rw [upR_ne _ _ ei]
          by_cases ej : j = at_
          · subst ej
            rw [upR_at]
            have hle : ky (F (j - 1)) ≤ ky w := by
              rcases hst with z | z
              · omega
              · omega
            by_cases e1 : i = j - 1
            · rw [e1]
              exact hle
            · have := s1 i (j - 1) (by omega) (by omega)
              omega
          · rw [upR_ne _ _ ej]
            rcases Nat.lt_or_ge j at_ with a | a
            · exact s1 i j hij a
            · rcases Nat.lt_or_ge i at_ with b | b
              · exact s3 i j b (by omega) hjk
              · exact s2 i j hij (by omega) hjk
    have go : gap ≤ at_ → ky w < ky (F (at_ - gap)) → V g mX10_order (d + 1) 79 [.ref m, .int (nI n), .int (if be then 1 else 0), .int (nI gap), .int (nI k), .int (nI w), .int (nI at_)] [] (mh h m v) Q := fun hga hlt => by
      refine v_ald0 (q := 80) dX10_order_79 rfl rfl ?_
      refine w_ga (q := 83) (j := 36) dX10_order_80 rfl hm (by decide) gf_X10_119_9 ?_
      refine v_ild6 (q := 85) dX10_order_83 rfl ?_
      refine v_ald0 (q := 86) dX10_order_85 rfl rfl ?_
      refine w_ga (q := 89) (j := 36) dX10_order_86 rfl hm (by decide) gf_X10_119_9 ?_
      refine v_ild6 (q := 91) dX10_order_89 rfl ?_
      refine v_ild3 (q := 92) dX10_order_91 rfl ?_
      refine v_isub (q := 93) dX10_order_92 rfl ?_
      rw [nI_sub hga]
      refine w_iald (q := 94) (n := 48100) dX10_order_93 rfl hm (by decide) rfl rfl rfl (by omega) ?_
      rw [hF (at_ - gap) (by omega)]
      refine w_iast (q := 95) (n := 48100) dX10_order_94 rfl hm (by decide) rfl rfl rfl (by omega) ?_
      refine v_ild6 (q := 97) dX10_order_95 rfl ?_
      refine v_ild3 (q := 98) dX10_order_97 rfl ?_
      refine v_isub (q := 99) dX10_order_98 rfl ?_
      rw [nI_sub hga]
      refine v_ist6 (q := 101) dX10_order_99 rfl (by decide) rfl ?_
      refine v_goto (q := 30) dX10_order_101 (by decide) ?_
      refine ih (at_ - gap) _ (upR F at_ (F (at_ - gap))) (by omega) (by omega) (hc.fo _ _) (hF.up at_ _) (fun i hi => ?_) (fun y => ?_) (fun g1 => ?_) hQ
      · by_cases e : i = at_
        · subst e
          rw [upR_at]
          exact hDF _ (by omega)
        · rw [upR_ne _ _ e]
          exact hDF i hi
      · have c1 := cN_up F (i := at_) (n := n) w y (by omega)
        have c2 := cN_up F (i := at_) (n := n) (F (at_ - gap)) y (by omega)
        have c3 := cN_up (upR F at_ (F (at_ - gap))) (i := at_ - gap) (n := n) w y (by omega)
        rw [upR_ne _ _ (show at_ - gap ≠ at_ by omega)] at c3
        have := hC y
        omega
      · obtain ⟨s1, s2, s3, s4⟩ := hS g1
        subst g1
        refine ⟨fun i j hij hj => ?_, fun i j hij hi hj => ?_, fun i j hi hj hjk => ?_, fun j hj hjk => ?_⟩
        · rw [upR_ne _ _ (show i ≠ at_ by omega), upR_ne _ _ (show j ≠ at_ by omega)]
          exact s1 i j hij (by omega)
        · rw [upR_ne _ _ (show j ≠ at_ by omega)]
          by_cases e : i = at_
          · subst e
            rw [upR_at]
            exact s3 (i - 1) j (by omega) (by omega) hj
          · rw [upR_ne _ _ e]
            exact s2 i j hij (by omega) hj
        · rw [upR_ne _ _ (show i ≠ at_ by omega)]
          by_cases e : j = at_
          · subst e
            rw [upR_at]
            exact s1 i (j - 1) (by omega) (by omega)
          · rw [upR_ne _ _ e]
            exact s3 i j (by omega) (by omega) hjk
        · by_cases e : j = at_
          · subst e
            rw [upR_at]
            exact hlt
          · rw [upR_ne _ _ e]
            exact s4 j (by omega) hjk
    refine v_ild6 (q := 32) dX10_order_30 rfl ?_
    refine v_ild3 (q := 33) dX10_order_32 rfl ?_
    by_cases hga : at_ < gap
    · refine v_icmp_lt (t := 104) (q := 36) dX10_order_33 (by decide) rfl (fun _ => stop (Or.inl hga)) (fun z => absurd (nI_lt hga (by omega)) z)
    have hga' : gap ≤ at_ := by omega
    refine v_icmp_lt (t := 104) (q := 36) dX10_order_33 (by decide) rfl (fun z => absurd z (nI_nlt hga' (by omega))) (fun _ => ?_)
    have hx := hD _ (hDF (at_ - gap) (by omega))
    have hcm' := hcm w (F (at_ - gap)) hw (hDF _ (by omega))
    rw [← cmp_scr hc] at hcm'
    refine v_ild2 (q := 37) dX10_order_36 rfl ?_
    cases be with
    | true =>
      refine v_if_eq (t := 61) (q := 40) dX10_order_37 (by decide) rfl (fun z => absurd z (by decide)) (fun _ => ?_)
      refine v_ald0 (q := 41) dX10_order_40 rfl rfl ?_
      refine v_ild5 (q := 43) dX10_order_41 rfl ?_
      refine v_ald0 (q := 44) dX10_order_43 rfl rfl ?_
      refine w_ga (q := 47) (j := 36) dX10_order_44 rfl hm (by decide) gf_X10_119_9 ?_
      refine v_ild6 (q := 49) dX10_order_47 rfl ?_
      refine v_ild3 (q := 50) dX10_order_49 rfl ?_
      refine v_isub (q := 51) dX10_order_50 rfl ?_
      rw [nI_sub hga']
      refine w_iald (q := 52) (n := 48100) dX10_order_51 rfl hm (by decide) rfl rfl rfl (by omega) ?_
      rw [hF (at_ - gap) (by omega)]
      refine v_callV (q := 55) (d' := d) (av := [.int (nI w), .int (nI (F (at_ - gap)))]) dX10_order_52 rfl ok_X10_isAheadByEnd CL9 ml_X10_200 im_X10_isAheadByEnd se_X10_isAheadByEnd hm.1 (by omega) rfl rfl (Nat.le_of_ble_eq_true rfl) ?_
      refine q_aheadEnd hm (hD _ hw) hx ?_
      rw [hcm']
      by_cases hlt : ky w < ky (F (at_ - gap))
      · rw [if_pos (decide_eq_true hlt)]
        refine v_if_eq (t := 104) (q := 58) dX10_order_55 (by decide) rfl (fun z => absurd z (by decide)) (fun _ => ?_)
        refine v_goto (q := 79) dX10_order_58 (by decide) ?_
        exact go hga' hlt
      · rw [if_neg (fun z => hlt (of_decide_eq_true z))]
        refine v_if_eq (t := 104) (q := 58) dX10_order_55 (by decide) rfl (fun _ => stop (Or.inr ⟨hga', hlt⟩)) (fun z => absurd rfl z)
    | false =>
      refine v_if_eq (t := 61) (q := 40) dX10_order_37 (by decide) rfl (fun _ => ?_) (fun z => absurd rfl z)
      refine v_ald0 (q := 62) dX10_order_61 rfl rfl ?_
      refine v_ild5 (q := 64) dX10_order_62 rfl ?_
      refine v_ald0 (q := 65) dX10_order_64 rfl rfl ?_
      refine w_ga (q := 68) (j := 36) dX10_order_65 rfl hm (by decide) gf_X10_119_9 ?_
      refine v_ild6 (q := 70) dX10_order_68 rfl ?_
      refine v_ild3 (q := 71) dX10_order_70 rfl ?_
      refine v_isub (q := 72) dX10_order_71 rfl ?_
      rw [nI_sub hga']
      refine w_iald (q := 73) (n := 48100) dX10_order_72 rfl hm (by decide) rfl rfl rfl (by omega) ?_
      rw [hF (at_ - gap) (by omega)]
      refine v_callV (q := 76) (d' := d) (av := [.int (nI w), .int (nI (F (at_ - gap)))]) dX10_order_73 rfl ok_X10_isAheadByKey CL9 ml_X10_204 im_X10_isAheadByKey se_X10_isAheadByKey hm.1 (by omega) rfl rfl (Nat.le_of_ble_eq_true rfl) ?_
      refine q_aheadKey hm (hD _ hw) hx ?_
      rw [hcm']
      by_cases hlt : ky w < ky (F (at_ - gap))
      · rw [if_pos (decide_eq_true hlt)]
        refine v_if_eq (t := 104) (q := 79) dX10_order_76 (by decide) rfl (fun z => absurd z (by decide)) (fun _ => ?_)
        exact go hga' hlt
      · rw [if_neg (fun z => hlt (of_decide_eq_true z))]
        refine v_if_eq (t := 104) (q := 79) dX10_order_76 (by decide) rfl (fun _ => stop (Or.inr ⟨hga', hlt⟩)) (fun z => absurd rfl z)
theorem or_mid {be : Bool} {n gap : Nat} {ky : Nat → Int} {D : Nat → Prop} {C : Nat → Nat} (hm : MK h m) (hn : n ≤ 48100) (hg : 1 ≤ gap) (hgn : gap ≤ 48100) (hD : ∀ x, D x → x < 48100) (hcm : ∀ x y, D x → D y → cmpB be u x y = decide (ky x < ky y)) :
    ∀ (t k : Nat) (v : Mu) (F : Nat → Nat), n ≤ k + t → 1 ≤ k → Scr u v → FA v F n → (∀ i, i < n → D (F i)) → (∀ y, cN F n y = C y) → (gap = 1 → ∀ i j, i < j → j < k → j < n → ky (F i) ≤ ky (F j)) →
      (∀ v' F', Scr u v' → FA v' F' n → (∀ i, i < n → D (F' i)) → (∀ y, cN F' n y = C y) → (gap = 1 → ∀ i j, i < j → j < n → ky (F' i) ≤ ky (F' j)) → V g mX10_order (d + 1) 119 [.ref m, .int (nI n), .int (if be then 1 else 0), .int (nI gap), zz, zz, zz] [] (mh h m v') Q) →
      k < 100000 → V g mX10_order (d + 1) 11 [.ref m, .int (nI n), .int (if be then 1 else 0), .int (nI gap), .int (nI k), zz, zz] [] (mh h m v) Q := by
  intro t
  induction t with
  | zero =>
    intro k v F ht hk1 hc hF hDF hC hS hQ hk2
    refine v_ild4 (q := 13) dX10_order_11 rfl ?_
    refine v_ild1 (q := 14) dX10_order_13 rfl ?_
    refine v_icmp_ge (t := 119) (q := 17) dX10_order_14 (by decide) rfl (fun _ => ?_) (fun z => absurd (nI_le (by omega) (by omega)) z)
    refine v_fg (FG.k (FG.k (FG.k (FG.k (FG.z (FG.z (FG.z FG.nil))))))) ?_
    exact hQ v F hc hF hDF hC (fun g1 i j hij hj => hS g1 i j hij (by omega) hj)
  | succ t ih =>
    intro k v F ht hk1 hc hF hDF hC hS hQ hk2
    refine v_ild4 (q := 13) dX10_order_11 rfl ?_
    refine v_ild1 (q := 14) dX10_order_13 rfl ?_
    by_cases hkn : n ≤ k
    · refine v_icmp_ge (t := 119) (q := 17) dX10_order_14 (by decide) rfl (fun _ => ?_) (fun z => absurd (nI_le hkn (by omega)) z)
      refine v_fg (FG.k (FG.k (FG.k (FG.k (FG.z (FG.z (FG.z FG.nil))))))) ?_
      exact hQ v F hc hF hDF hC (fun g1 i j hij hj => hS g1 i j hij (by omega) hj)
    refine v_icmp_ge (t := 119) (q := 17) dX10_order_14 (by decide) rfl (fun z => absurd z (nI_ge (by omega) (by omega))) (fun _ => ?_)
    refine v_ald0 (q := 18) dX10_order_17 rfl rfl ?_
    refine w_ga (q := 21) (j := 36) dX10_order_18 rfl hm (by decide) gf_X10_119_9 ?_
    refine v_ild4 (q := 23) dX10_order_21 rfl ?_
    refine w_iald (q := 24) (n := 48100) dX10_order_23 rfl hm (by decide) rfl rfl rfl (by omega) ?_
    rw [hF k (by omega)]
    refine v_ist5 (q := 26) dX10_order_24 rfl (by decide) rfl ?_
    refine v_ild4 (q := 28) dX10_order_26 rfl ?_
    refine v_ist6 (q := 30) dX10_order_28 rfl (by decide) rfl ?_
    refine or_in (d := d) (C := C) hm hn hg hgn (show k < n by omega) hD hcm (hDF k (by omega)) k k v F (Nat.le_refl _) (Nat.le_refl _) hc hF hDF (fun y => ?_) (fun g1 => ?_) (fun v' F' c' f' d' cc' s' => ?_)
    · have := cN_up F (i := k) (n := n) (F k) y (by omega)
      have := hC y
      omega
    · refine ⟨fun i j hij hj => hS g1 i j hij hj (by omega), fun i j hij hi hj => by omega, fun i j hi hj hjk => by omega, fun j hj hjk => by omega⟩
    · refine v_inc4 (q := 116) dX10_order_113 rfl (by decide) rfl rfl ?_
      rw [inc1]
      refine v_goto (q := 11) dX10_order_116 (by decide) ?_
      exact ih (k + 1) v' F' (by omega) (by omega) c' f' d' cc' (fun g1 i j hij hj _ => s' g1 i j hij (by omega)) hQ (by omega)
theorem or_out {be : Bool} {n : Nat} {ky : Nat → Int} {D : Nat → Prop} {C : Nat → Nat} (hm : MK h m) (hn : n ≤ 48100) (hD : ∀ x, D x → x < 48100) (hcm : ∀ x y, D x → D y → cmpB be u x y = decide (ky x < ky y)) :
    ∀ (t gap : Nat) (v : Mu) (F : Nat → Nat), gap ≤ t → gap ≤ n → Scr u v → FA v F n → (∀ i, i < n → D (F i)) → (∀ y, cN F n y = C y) → (gap = 0 → ∀ i j, i < j → j < n → ky (F i) ≤ ky (F j)) →
      (∀ v' F', Scr u v' → FA v' F' n → (∀ i, i < n → D (F' i)) → (∀ y, cN F' n y = C y) → (∀ i j, i < j → j < n → ky (F' i) ≤ ky (F' j)) → Q none (mh h m v')) →
      V g mX10_order (d + 1) 4 [.ref m, .int (nI n), .int (if be then 1 else 0), .int (nI gap), zz, zz, zz] [] (mh h m v) Q := by
  intro t
  induction t with
  | zero =>
    intro gap v F ht hgn hc hF hDF hC hS hQ
    have : gap = 0 := by omega
    subst this
    refine v_ild3 (q := 5) dX10_order_4 rfl ?_
    refine v_if_le (t := 126) (q := 8) dX10_order_5 (by decide) rfl (fun _ => ?_) (fun z => absurd (show nI 0 ≤ nI 0 from Int32.le_refl _) z)
    refine v_vret dX10_order_126 rfl ?_
    exact hQ v F hc hF hDF hC (hS rfl)
  | succ t ih =>
    intro gap v F ht hgn hc hF hDF hC hS hQ
    refine v_ild3 (q := 5) dX10_order_4 rfl ?_
    by_cases g0 : gap = 0
    · subst g0
      refine v_if_le (t := 126) (q := 8) dX10_order_5 (by decide) rfl (fun _ => ?_) (fun z => absurd (show nI 0 ≤ nI 0 from Int32.le_refl _) z)
      refine v_vret dX10_order_126 rfl ?_
      exact hQ v F hc hF hDF hC (hS rfl)
    refine v_if_le (t := 126) (q := 8) dX10_order_5 (by decide) rfl (fun z => absurd z (show ¬ nI gap ≤ nI 0 from nI_ge (by omega) (by omega))) (fun _ => ?_)
    refine v_ild3 (q := 9) dX10_order_8 rfl ?_
    refine v_ist4 (q := 11) dX10_order_9 rfl (by decide) rfl ?_
    refine or_mid (d := d) (C := C) hm hn (show 1 ≤ gap by omega) (by omega) hD hcm n gap v F (by omega) (by omega) hc hF hDF hC (fun g1 i j hij hj _ => by omega) (fun v' F' c' f' d' cc' s' => ?_) (by omega)
    refine v_ild3 (q := 120) dX10_order_119 rfl ?_
    refine v_iconst (q := 121) (v := 2) dX10_order_120 rfl (by decide) ?_
    refine v_idiv (q := 122) dX10_order_121 rfl (by decide) ?_
    rw [show nI gap / 2 = nI (gap / 2) from pk_div (d := 2) (by omega) (by decide) (by decide)]
    refine v_ist3 (q := 123) dX10_order_122 rfl (by decide) rfl ?_
    refine v_goto (q := 4) dX10_order_123 (by decide) ?_
    exact ih (gap / 2) v' F' (by omega) (by omega) c' f' d' cc' (fun z => s' (by omega)) hQ
theorem q_order {be : Bool} {n : Nat} {ky : Nat → Int} {D : Nat → Prop} {v : Mu} {F : Nat → Nat} (hm : MK h m) (hn : n ≤ 48100) (hD : ∀ x, D x → x < 48100) (hcm : ∀ x y, D x → D y → cmpB be u x y = decide (ky x < ky y)) (hc : Scr u v) (hF : FA v F n) (hDF : ∀ i, i < n → D (F i))
    (hQ : ∀ v' F', Scr u v' → FA v' F' n → (∀ y, cN F' n y = cN F n y) → (∀ i j, i < j → j < n → ky (F' i) ≤ ky (F' j)) → Q none (mh h m v')) : Call g mX10_order (d + 1) [.ref m, .int (nI n), .int (if be then 1 else 0)] (mh h m v) Q := by
  refine Call.of [.ref m, .int (nI n), .int (if be then 1 else 0), zz, zz, zz, zz] (by decide) (Nat.le_of_ble_eq_true rfl) rfl ?_
  refine v_ild1 (q := 1) dX10_order_0 rfl ?_
  refine v_iconst (q := 2) (v := 2) dX10_order_1 rfl (by decide) ?_
  refine v_idiv (q := 3) dX10_order_2 rfl (by decide) ?_
  rw [show nI n / 2 = nI (n / 2) from pk_div (d := 2) (by omega) (by decide) (by decide)]
  refine v_ist3 (q := 4) dX10_order_3 rfl (by decide) rfl ?_
  exact or_out (d := d) hm hn hD hcm n (n / 2) v F (by omega) (by omega) hc hF hDF (fun _ => rfl) (fun z i j hij hj => by omega) (fun v' F' c' f' d' cc' s' => hQ v' F' c' f' cc' s')
end LB5
