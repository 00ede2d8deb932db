/-! E6: the model: stage, window -/
section LE6
variable {g : Gl} {d : Nat} {h : Hp} {m : Nat} {Q : Option Value → Hp → Prop} {X : Sg} {ws : List (Option Mw)} {u : Mu} {kd a b : Int32}
theorem SI.new (hS : SI X) (hs : saidB kd a b = true) (h16 : xM X < 16) : SI (xNew X kd a b) := by
  refine ⟨fun s hs' => ?_, hS.2.1, hS.2.2⟩
  by_cases e : s = xM X
  · subst e
    rw [xNew_new]
    refine ⟨fun hw => ?_, fun _ => rfl, Int.le_refl _, show (0 : Int32).toInt ≤ 200000 by decide⟩
    have hw4 : 4 ≤ kd := of_decide_eq_true hw
    obtain ⟨k1, k2, k3, k4, k5, k6⟩ := said_w hs hw4
    refine ⟨⟨⟨h16, ?_, ?_, k2, k3, k4, k5, k6, show 0 ≤ (0 : Int32).toInt by decide, show (0 : Int32).toInt ≤ 100000 by decide, show 0 ≤ (0 : Int32).toInt by decide, show (0 : Int32).toInt ≤ 200000 by decide⟩, rfl, rfl, rfl, k1⟩, fun k hk => ⟨fun x hx => (by cases hx), List.Pairwise.nil⟩, rfl, fun k hk w hx => (by cases hx)⟩
    · show (0 : Int32).toNatClampNeg ≤ 5
      decide
    · show (0 : Int32).toNatClampNeg ≤ 1000
      decide
  · have : s < xM X := by
      have : s < xM X + 1 := hs'
      omega
    rw [xNew_st this]
    exact hS.1 s this
theorem mr_new (hR : MR u X ws) (h16 : xM X < 16) : MR (sF (sI (sI (sI (sI u 3 (xM X) kd) 4 (xM X) a) 5 (xM X) b) 7 (xM X) 1) 78 (nI (xM X + 1))) (xNew X kd a b) ws := by
  have hne : ∀ (j i : Nat), i ≠ xM X → mI (sF (sI (sI (sI (sI u 3 (xM X) kd) 4 (xM X) a) 5 (xM X) b) 7 (xM X) 1) 78 (nI (xM X + 1))) j i = mI u j i := fun j i hi => by
    rw [mI_sF]
    by_cases e7 : j = 7
    · subst e7
      rw [mI_ni _ hi, mI_nr _ (by decide), mI_nr _ (by decide), mI_nr _ (by decide)]
    rw [mI_nr _ e7]
    by_cases e5 : j = 5
    · subst e5
      rw [mI_ni _ hi, mI_nr _ (by decide), mI_nr _ (by decide)]
    rw [mI_nr _ e5]
    by_cases e4 : j = 4
    · subst e4
      rw [mI_ni _ hi, mI_nr _ (by decide)]
    rw [mI_nr _ e4]
    by_cases e3 : j = 3
    · subst e3
      exact mI_ni _ hi
    · rw [mI_nr _ e3]
  have hnr : ∀ j, j ≠ 3 → j ≠ 4 → j ≠ 5 → j ≠ 7 → mI (sF (sI (sI (sI (sI u 3 (xM X) kd) 4 (xM X) a) 5 (xM X) b) 7 (xM X) 1) 78 (nI (xM X + 1))) j = mI u j := fun j h3 h4 h5 h7 => by
    rw [mI_sF, mI_nr _ h7, mI_nr _ h5, mI_nr _ h4, mI_nr _ h3]
  obtain ⟨⟨⟨a1, a2⟩, b1, c1, e1⟩, r, w⟩ := hR
  refine ⟨⟨⟨rfl, a2⟩, fun p hp => ⟨(congrFun (hnr 1 (by decide) (by decide) (by decide) (by decide)) p).trans (b1 p hp).1, (congrFun (hnr 2 (by decide) (by decide) (by decide) (by decide)) p).trans (b1 p hp).2⟩, fun s hs => ?_, fun s hs1 hs2 => ?_⟩, r.same (fun j h1 h2 => hnr j (by omega) (by omega) (by omega) (by omega)) rfl rfl, ?_⟩
  · by_cases e : s = xM X
    · subst e
      rw [xNew_new]
      obtain ⟨z1, z2, z3, z4⟩ := e1 (xM X) (Nat.le_refl _) h16
      have q3 : mI (sF (sI (sI (sI (sI u 3 (xM X) kd) 4 (xM X) a) 5 (xM X) b) 7 (xM X) 1) 78 (nI (xM X + 1))) 3 (xM X) = kd := by
        rw [mI_sF, mI_nr _ (by decide), mI_nr _ (by decide), mI_nr _ (by decide), mI_at]
      have q4 : mI (sF (sI (sI (sI (sI u 3 (xM X) kd) 4 (xM X) a) 5 (xM X) b) 7 (xM X) 1) 78 (nI (xM X + 1))) 4 (xM X) = a := by
        rw [mI_sF, mI_nr _ (by decide), mI_nr _ (by decide), mI_at]
      have q5 : mI (sF (sI (sI (sI (sI u 3 (xM X) kd) 4 (xM X) a) 5 (xM X) b) 7 (xM X) 1) 78 (nI (xM X + 1))) 5 (xM X) = b := by
        rw [mI_sF, mI_nr _ (by decide), mI_at]
      have q7 : mI (sF (sI (sI (sI (sI u 3 (xM X) kd) 4 (xM X) a) 5 (xM X) b) 7 (xM X) 1) 78 (nI (xM X + 1))) 7 (xM X) = 1 := by
        rw [mI_sF, mI_at]
      have q : ∀ j, 9 ≤ j → j ≤ 17 → mI (sF (sI (sI (sI (sI u 3 (xM X) kd) 4 (xM X) a) 5 (xM X) b) 7 (xM X) 1) 78 (nI (xM X + 1))) j (xM X) = 0 := fun j h1 h2 => by
        rw [hnr j (by omega) (by omega) (by omega) (by omega)]
        exact z3 j h1 h2
      exact ⟨⟨q3, q4, q5, (congrFun (hnr 6 (by decide) (by decide) (by decide) (by decide)) _).trans z1, q7⟩, fun f hf => (congrFun (hnr 8 (by decide) (by decide) (by decide) (by decide)) _).trans (z2 f hf), (q 9 (by decide) (by decide)).trans rfl, ⟨q 10 (by decide) (by decide), q 11 (by decide) (by decide), q 12 (by decide) (by decide), q 13 (by decide) (by decide), q 14 (by decide) (by decide)⟩, q 15 (by decide) (by decide), q 16 (by decide) (by decide), q 17 (by decide) (by decide), z4⟩
    · have hs' : s < xM X := by
        have : s < xM X + 1 := hs
        omega
      rw [xNew_st hs']
      obtain ⟨⟨x1, x2, x3, x4, x5⟩, x6, x7, ⟨d1, d2, d3, d4, d5⟩, y1, y2, y3, y4⟩ := c1 s hs'
      exact ⟨⟨(hne 3 s e).trans x1, (hne 4 s e).trans x2, (hne 5 s e).trans x3, (hne 6 s e).trans x4, (hne 7 s e).trans x5⟩, fun f hf => (congrFun (hnr 8 (by decide) (by decide) (by decide) (by decide)) _).trans (x6 f hf), (hne 9 s e).trans x7, ⟨(hne 10 s e).trans d1, (hne 11 s e).trans d2, (hne 12 s e).trans d3, (hne 13 s e).trans d4, (hne 14 s e).trans d5⟩, (hne 15 s e).trans y1, (hne 16 s e).trans y2, (hne 17 s e).trans y3, y4⟩
  · have hs1' : xM X + 1 ≤ s := hs1
    obtain ⟨z1, z2, z3, z4⟩ := e1 s (by omega) hs2
    exact ⟨(hne 6 s (by omega)).trans z1, fun f hf => (congrFun (hnr 8 (by decide) (by decide) (by decide) (by decide)) _).trans (z2 f hf), fun j h1 h2 => (hne j s (by omega)).trans (z3 j h1 h2), z4⟩
  · obtain ⟨w1, w2, w3, w4, ⟨ne, f1, f2, f3, f4⟩, w6⟩ := w.same (u' := sF (sI (sI (sI (sI u 3 (xM X) kd) 4 (xM X) a) 5 (xM X) b) 7 (xM X) 1) 78 (nI (xM X + 1))) (fun j h1 h2 => hnr j (by omega) (by omega) (by omega) (by omega)) rfl rfl rfl
    have h0 : entS (newS kd a b) = 0 := by
      unfold entS
      split
      · exact fb_sm_const 0 1000
      · rfl
    refine ⟨w1, fun k o hk => ?_, fun s ky w es hx => ?_, fun s hs hW ky hk => ?_, ⟨ne, f1, f2, by rw [tot_new entS h0]; exact f3, f4⟩, w6⟩
    · match o, hk with
      | none, hk => exact w2 k none hk
      | some (s', ky, w, es), hk =>
        have q := (w3 s' ky w es (List.mem_of_getElem? hk)).1
        obtain ⟨y1, y2, y3, y4, y5, y6⟩ := w2 k _ hk
        exact ⟨y1, y2, y3, y4, by rw [xNew_st q]; exact y5, y6⟩
    · obtain ⟨q1, q2, q3⟩ := w3 s ky w es hx
      rw [xNew_st q1]
      exact ⟨Nat.lt_succ_of_lt q1, q2, q3⟩
    · by_cases e : s = xM X
      · subst e
        rw [xNew_new]
        show (lnO ws (xM X) ky).Perm []
        have : lnO ws (xM X) ky = [] := by
          refine List.filterMap_eq_nil_iff.mpr (fun o ho => ?_)
          match o, ho with
          | none, _ => rfl
          | some (s', k', w, es), ho =>
            have q := (w3 s' k' w es ho).1
            exact if_neg (fun z => by omega)
        rw [this]
      · have hs' : s < xM X := by
          have : s < xM X + 1 := hs
          omega
        rw [xNew_st hs'] at hW ⊢
        exact w4 s hs' hW ky hk
theorem said_out {kd a b : Int32} (h : kd.toInt < 0 ∨ 6 < kd.toInt) : saidB kd a b = false := by
  have i0 : (0 : Int32).toInt = 0 := by decide
  have i1 : (1 : Int32).toInt = 1 := by decide
  have i2 : (2 : Int32).toInt = 2 := by decide
  have i3 : (3 : Int32).toInt = 3 := by decide
  have i4 : (4 : Int32).toInt = 4 := by decide
  have i5 : (5 : Int32).toInt = 5 := by decide
  have i6 : (6 : Int32).toInt = 6 := by decide
  unfold saidB
  rw [if_neg (by rw [fa_eq]; omega), if_neg (by rw [fa_eq]; omega), if_neg (by rw [fa_eq]; omega), if_neg (by rw [fa_eq]; omega), if_neg (by rw [fa_eq]; omega), if_neg (by rw [fa_eq]; omega), if_neg (by rw [fa_eq]; omega)]
theorem q_stage (hm : MK h m) (hR : MR u X ws) (hI : MI X) (hS : SI X) (hQ : MoQ h m Q (doStage X kd a b).1 (doStage X kd a b).2) : Call g mX10_stage (d + 1) [.ref m, .int kd, .int a, .int b] (mh h m u) Q := by
  have h16 := hI.1.1
  have i0 : (0 : Int32).toInt = 0 := by decide
  have i6 : (6 : Int32).toInt = 6 := by decide
  refine Call.of [.ref m, .int kd, .int a, .int b] (by decide) (Nat.le_of_ble_eq_true rfl) rfl ?_
  have no : saidB kd a b = false → V g mX10_stage (d + 1) 19 [.ref m, .int kd, .int a, .int b] [] (mh h m u) Q := fun hn => by
    have e : doStage X kd a b = (-1, X) := if_neg (by rw [hn]; decide)
    rw [e] at hQ
    refine v_iconst (q := 20) (v := -1) dX10_stage_19 rfl (by decide) ?_
    refine v_iret dX10_stage_20 rfl ?_
    exact hQ u ws hR hS
  refine v_ild1 (q := 1) dX10_stage_0 rfl ?_
  by_cases c1 : kd < 0
  · exact v_if_lt (t := 19) (q := 4) dX10_stage_1 (by decide) rfl (fun _ => no (said_out (Or.inl (by rw [fa_lt, i0] at c1; exact c1)))) (fun z => absurd c1 z)
  refine v_if_lt (t := 19) (q := 4) dX10_stage_1 (by decide) rfl (fun z => absurd z c1) (fun _ => ?_)
  refine v_ild1 (q := 5) dX10_stage_4 rfl ?_
  refine v_bipush (q := 7) (v := 6) dX10_stage_5 rfl (by decide) ?_
  by_cases c2 : 6 < kd
  · exact v_icmp_gt (t := 19) (q := 10) dX10_stage_7 (by decide) rfl (fun _ => no (said_out (Or.inr (by rw [fa_lt, i6] at c2; exact c2)))) (fun z => absurd c2 z)
  refine v_icmp_gt (t := 19) (q := 10) dX10_stage_7 (by decide) rfl (fun z => absurd z c2) (fun _ => ?_)
  rw [fa_lt, i0] at c1
  rw [fa_lt, i6] at c2
  refine v_ild1 (q := 11) dX10_stage_10 rfl ?_
  refine v_ild2 (q := 12) dX10_stage_11 rfl ?_
  refine v_ild3 (q := 13) dX10_stage_12 rfl ?_
  refine v_callS (q := 16) (d' := d) (av := [.int kd, .int a, .int b]) dX10_stage_13 rfl ok_X10_isRight ml_X10_126 st_X10_isRight (by omega) rfl rfl (Nat.le_of_ble_eq_true rfl) ?_
  refine q_isRight (by omega) (by omega) ?_
  by_cases hs : ¬ saidB kd a b = true
  · rw [if_neg hs]
    exact v_if_ne (t := 21) (q := 19) dX10_stage_16 (by decide) rfl (fun z => absurd rfl z) (fun _ => no (Bool.eq_false_iff.mpr hs))
  have hs := Classical.not_not.mp hs
  rw [if_pos hs]
  refine v_if_ne (t := 21) (q := 19) dX10_stage_16 (by decide) rfl (fun _ => ?_) (fun z => absurd z (by decide))
  unfold doStage at hQ
  rw [if_pos hs] at hQ
  refine v_ald0 (q := 22) dX10_stage_21 rfl rfl ?_
  refine w_gi (q := 25) dX10_stage_22 rfl hm gf_X10_122_9 ?_
  rw [hR.1.1.1]
  refine v_bipush (q := 27) (v := 16) dX10_stage_25 rfl (by decide) ?_
  by_cases hM : ¬ xM X < 16
  · rw [if_neg hM] at hQ
    have e : nI (xM X) = 16 := by rw [show xM X = 16 by omega]; rfl
    rw [e]
    refine v_icmp_ne (t := 33) (q := 30) dX10_stage_27 (by decide) rfl (fun z => absurd rfl z) (fun _ => ?_)
    refine v_bipush (q := 32) (v := -6) dX10_stage_30 rfl (by decide) ?_
    refine v_iret dX10_stage_32 rfl ?_
    exact hQ u ws hR hS
  have hM := Classical.not_not.mp hM
  rw [if_pos hM] at hQ
  refine v_icmp_ne (t := 33) (q := 30) dX10_stage_27 (by decide) rfl (fun _ => ?_) (fun z => absurd ((nI_eq (by omega) (by omega)).mp (show nI (xM X) = nI 16 from z)) (by omega))
  refine v_ald0 (q := 34) dX10_stage_33 rfl rfl ?_
  refine w_ga (q := 37) (j := 3) dX10_stage_34 rfl hm (by decide) gf_X10_17_9 ?_
  refine v_ald0 (q := 38) dX10_stage_37 rfl rfl ?_
  refine w_gi (q := 41) dX10_stage_38 rfl hm gf_X10_122_9 ?_
  refine v_ild1 (q := 42) dX10_stage_41 rfl ?_
  refine w_iast (q := 43) (n := 16) dX10_stage_42 rfl hm (by decide) rfl rfl hR.1.1.1 (by omega) ?_
  refine v_ald0 (q := 44) dX10_stage_43 rfl rfl ?_
  refine w_ga (q := 47) (j := 4) dX10_stage_44 rfl hm (by decide) gf_X10_20_9 ?_
  refine v_ald0 (q := 48) dX10_stage_47 rfl rfl ?_
  refine w_gi (q := 51) dX10_stage_48 rfl hm gf_X10_122_9 ?_
  refine v_ild2 (q := 52) dX10_stage_51 rfl ?_
  refine w_iast (q := 53) (n := 16) dX10_stage_52 rfl hm (by decide) rfl rfl hR.1.1.1 (by omega) ?_
  refine v_ald0 (q := 54) dX10_stage_53 rfl rfl ?_
  refine w_ga (q := 57) (j := 5) dX10_stage_54 rfl hm (by decide) gf_X10_23_9 ?_
  refine v_ald0 (q := 58) dX10_stage_57 rfl rfl ?_
  refine w_gi (q := 61) dX10_stage_58 rfl hm gf_X10_122_9 ?_
  refine v_ild3 (q := 62) dX10_stage_61 rfl ?_
  refine w_iast (q := 63) (n := 16) dX10_stage_62 rfl hm (by decide) rfl rfl hR.1.1.1 (by omega) ?_
  refine v_ald0 (q := 64) dX10_stage_63 rfl rfl ?_
  refine w_ga (q := 67) (j := 7) dX10_stage_64 rfl hm (by decide) gf_X10_29_9 ?_
  refine v_ald0 (q := 68) dX10_stage_67 rfl rfl ?_
  refine w_gi (q := 71) dX10_stage_68 rfl hm gf_X10_122_9 ?_
  refine v_iconst (q := 72) (v := 1) dX10_stage_71 rfl (by decide) ?_
  refine w_zast (q := 73) (n := 16) dX10_stage_72 rfl hm (by decide) rfl rfl hR.1.1.1 (by omega) rfl ?_
  refine v_ald0 (q := 74) dX10_stage_73 rfl rfl ?_
  refine v_dup (q := 75) dX10_stage_74 rfl rfl ?_
  refine w_gi (q := 78) dX10_stage_75 rfl hm gf_X10_122_9 ?_
  rw [show mF (sI (sI (sI (sI u 3 (xM X) kd) 4 (xM X) a) 5 (xM X) b) 7 (xM X) 1) 78 = nI (xM X) from hR.1.1.1]
  refine v_iconst (q := 79) (v := 1) dX10_stage_78 rfl (by decide) ?_
  refine v_iadd (q := 80) dX10_stage_79 rfl ?_
  rw [nI_1]
  refine w_pi (q := 83) dX10_stage_80 rfl hm pf_X10_122_9 ?_
  refine v_ald0 (q := 84) dX10_stage_83 rfl rfl ?_
  refine w_gi (q := 87) dX10_stage_84 rfl hm gf_X10_122_9 ?_
  rw [show mF (sF (sI (sI (sI (sI u 3 (xM X) kd) 4 (xM X) a) 5 (xM X) b) 7 (xM X) 1) 78 (nI (xM X + 1))) 78 = nI (xM X + 1) from rfl]
  refine v_iconst (q := 88) (v := 1) dX10_stage_87 rfl (by decide) ?_
  refine v_isub (q := 89) dX10_stage_88 rfl ?_
  rw [show nI (xM X + 1) - 1 = nI (xM X) from nI_sub (a := xM X + 1) (c := 1) (by omega)]
  refine v_iret dX10_stage_89 rfl ?_
  exact hQ _ ws (mr_new hR hM) (hS.new hs hM)
theorem si_empty {s : Nat} (hB : BI X) (hS : SI X) (hs : s < xM X) (hw : isW (xS X s) = true) (h4 : ¬ 0 < gI (xS X s) 4) : ∀ k, k < 1000 → gL (xS X s) k = [] := fun k hk => by
  have hb := hB.1 s hs hw
  have hc0 : camS (xS X s) = 0 := Classical.byContradiction fun z => h4 (by
    rw [hb.2.2.2.1]
    exact show nI 0 < nI _ from nI_lt (by omega) (by omega))
  have ee : entS (xS X s) = sm vN (gL (xS X s)) := if_pos hw
  have h1 := sm_le vN (gL (xS X s)) hk
  have h2 := vN_len (gL (xS X s) k) (fun x hx => ((((hS.one hs).1 hw).2.1 k hk).1 x hx).1)
  exact List.length_eq_zero_iff.mp (by omega)
theorem q_window {s q l e : Int32} (hm : MK h m) (hR : MR u X ws) (hI : MI X) (hS : SI X) (hQ : MoQ h m Q (doWindow X s q l e).1 (doWindow X s q l e).2) : Call g mX10_window (d + 1) [.ref m, .int s, .int q, .int l, .int e] (mh h m u) Q := by
  have h16 := hI.1.1
  refine Call.of [.ref m, .int s, .int q, .int l, .int e] (by decide) (Nat.le_of_ble_eq_true rfl) rfl ?_
  have no : ¬ winB X s q l e → V g mX10_window (d + 1) 40 [.ref m, .int s, .int q, .int l, .int e] [] (mh h m u) Q := fun hn => by
    have e : doWindow X s q l e = (-1, X) := if_neg hn
    rw [e] at hQ
    refine v_iconst (q := 41) (v := -1) dX10_window_40 rfl (by decide) ?_
    refine v_iret dX10_window_41 rfl ?_
    exact hQ u ws hR hS
  refine v_ald0 (q := 1) dX10_window_0 rfl rfl ?_
  refine v_ild1 (q := 2) dX10_window_1 rfl ?_
  refine v_callV (q := 5) (d' := d) (av := [.int s]) dX10_window_2 rfl ok_X10_is CL9 ml_X10_134 im_X10_is se_X10_is hm.1 (by omega) rfl rfl (Nat.le_of_ble_eq_true rfl) ?_
  refine q_isS hm hR.1 h16 (fun j ej hj => ?_) (fun hn => ?_)
  · subst ej
    refine v_if_eq (t := 40) (q := 8) dX10_window_5 (by decide) rfl (fun z => absurd z (by decide)) (fun _ => ?_)
    refine v_ild2 (q := 9) dX10_window_8 rfl ?_
    by_cases c1 : q < 0
    · exact v_if_lt (t := 40) (q := 12) dX10_window_9 (by decide) rfl (fun _ => no (fun w => absurd c1 (Int32.not_lt.mpr w.2.1.1))) (fun z => absurd c1 z)
    refine v_if_lt (t := 40) (q := 12) dX10_window_9 (by decide) rfl (fun z => absurd z c1) (fun _ => ?_)
    refine v_ild2 (q := 13) dX10_window_12 rfl ?_
    refine v_iconst (q := 14) (v := 5) dX10_window_13 rfl (by decide) ?_
    by_cases c2 : 5 < q
    · exact v_icmp_gt (t := 40) (q := 17) dX10_window_14 (by decide) rfl (fun _ => no (fun w => absurd c2 (Int32.not_lt.mpr w.2.1.2))) (fun z => absurd c2 z)
    refine v_icmp_gt (t := 40) (q := 17) dX10_window_14 (by decide) rfl (fun z => absurd z c2) (fun _ => ?_)
    refine v_ild3 (q := 18) dX10_window_17 rfl ?_
    by_cases c3 : l < 0
    · exact v_if_lt (t := 40) (q := 21) dX10_window_18 (by decide) rfl (fun _ => no (fun w => absurd c3 (Int32.not_lt.mpr w.2.2.1.1))) (fun z => absurd c3 z)
    refine v_if_lt (t := 40) (q := 21) dX10_window_18 (by decide) rfl (fun z => absurd z c3) (fun _ => ?_)
    refine v_ild3 (q := 22) dX10_window_21 rfl ?_
    refine v_ldc (q := 24) dX10_window_22 rfl kc_X10_144 ?_
    by_cases c4 : 100000 < l
    · exact v_icmp_gt (t := 40) (q := 27) dX10_window_24 (by decide) rfl (fun _ => no (fun w => absurd c4 (Int32.not_lt.mpr w.2.2.1.2))) (fun z => absurd c4 z)
    refine v_icmp_gt (t := 40) (q := 27) dX10_window_24 (by decide) rfl (fun z => absurd z c4) (fun _ => ?_)
    refine v_ild4 (q := 29) dX10_window_27 rfl ?_
    by_cases c5 : e < 0
    · exact v_if_lt (t := 40) (q := 32) dX10_window_29 (by decide) rfl (fun _ => no (fun w => absurd c5 (Int32.not_lt.mpr w.2.2.2.1))) (fun z => absurd c5 z)
    refine v_if_lt (t := 40) (q := 32) dX10_window_29 (by decide) rfl (fun z => absurd z c5) (fun _ => ?_)
    refine v_ild4 (q := 34) dX10_window_32 rfl ?_
    refine v_sipush (q := 37) (v := 1000) dX10_window_34 rfl (by decide) ?_
    by_cases c6 : ¬ e ≤ 1000
    · exact v_icmp_le (t := 42) (q := 40) dX10_window_37 (by decide) rfl (fun z => absurd z c6) (fun _ => no (fun w => c6 w.2.2.2.2))
    have c6 := Classical.not_not.mp c6
    refine v_icmp_le (t := 42) (q := 40) dX10_window_37 (by decide) rfl (fun _ => ?_) (fun z => absurd c6 z)
    have hb : winB X (nI j) q l e := ⟨⟨nI_pos' (by omega), nI_lt hj (by omega)⟩, ⟨Int32.not_lt.mp c1, Int32.not_lt.mp c2⟩, ⟨Int32.not_lt.mp c3, Int32.not_lt.mp c4⟩, Int32.not_lt.mp c5, c6⟩
    have eD : doWindow X (nI j) q l e = if isW (xS X j) then (if 0 < gI (xS X j) 4 then (-4, X) else (1, xSet X j (stW3 (xS X j) q l e) (xR X))) else (-2, X) := by
      unfold doWindow
      rw [if_pos hb, nI_clamp (by omega)]
    rw [eD] at hQ
    refine v_ald0 (q := 43) dX10_window_42 rfl rfl ?_
    refine v_ild1 (q := 44) dX10_window_43 rfl ?_
    refine v_callV (q := 47) (d' := d) (av := [.int (nI j)]) dX10_window_44 rfl ok_X10_isWindowed CL9 ml_X10_130 im_X10_isWindowed se_X10_isWindowed hm.1 (by omega) rfl rfl (Nat.le_of_ble_eq_true rfl) ?_
    refine q_isW hm hR.1 h16 hj ?_
    by_cases hw : ¬ isW (xS X j) = true
    · rw [if_neg hw] at hQ ⊢
      refine v_if_ne (t := 53) (q := 50) dX10_window_47 (by decide) rfl (fun z => absurd rfl z) (fun _ => ?_)
      refine v_bipush (q := 52) (v := -2) dX10_window_50 rfl (by decide) ?_
      refine v_iret dX10_window_52 rfl ?_
      exact hQ u ws hR hS
    have hw := Classical.not_not.mp hw
    rw [if_pos hw] at hQ ⊢
    refine v_if_ne (t := 53) (q := 50) dX10_window_47 (by decide) rfl (fun _ => ?_) (fun z => absurd z (by decide))
    obtain ⟨⟨x1, x2, x3, x4, x5⟩, x6, x7, ⟨d1, d2, d3, d4, d5⟩, y1, y2, y3, y4⟩ := hR.1.2.2.1 j hj
    refine v_ald0 (q := 54) dX10_window_53 rfl rfl ?_
    refine w_ga (q := 57) (j := 10) dX10_window_54 rfl hm (by decide) gf_X10_38_9 ?_
    refine v_ild1 (q := 58) dX10_window_57 rfl ?_
    refine w_iald (q := 59) (n := 16) dX10_window_58 rfl hm (by decide) rfl rfl rfl (by omega) ?_
    rw [d1]
    by_cases h4 : 0 < gI (xS X j) 4
    · rw [if_pos h4] at hQ
      refine v_if_le (t := 65) (q := 62) dX10_window_59 (by decide) rfl (fun z => absurd z (Int32.not_le.mpr h4)) (fun _ => ?_)
      refine v_bipush (q := 64) (v := -4) dX10_window_62 rfl (by decide) ?_
      refine v_iret dX10_window_64 rfl ?_
      exact hQ u ws hR hS
    rw [if_neg h4] at hQ
    refine v_if_le (t := 65) (q := 62) dX10_window_59 (by decide) rfl (fun _ => ?_) (fun z => absurd (Int32.not_lt.mp h4) z)
    have hE := si_empty hI.2.1 hS hj hw h4
    obtain ⟨hO, _, h8, _⟩ := (hS.one hj).1 hw
    obtain ⟨⟨B1, B2, B3, B4, B5, B6, B7, B8, B9, B10, B11, B12⟩, o20, o22, o23, okd⟩ := id hO
    obtain ⟨qn, hqn, rfl⟩ := nI_of c1
    obtain ⟨en, hen, rfl⟩ := nI_of c5
    have hq5 : qn ≤ 5 := Classical.byContradiction fun z => absurd (Int32.not_lt.mp c2) (show ¬ nI qn ≤ nI 5 from nI_ge (by omega) hqn)
    have he1 : en ≤ 1000 := Classical.byContradiction fun z => absurd c6 (show ¬ nI en ≤ nI 1000 from nI_ge (by omega) hen)
    have l0 : 0 ≤ l.toInt := by
      have := Int32.not_lt.mp c3
      rw [fa_le] at this
      exact this
    have l1 : l.toInt ≤ 100000 := by
      have := Int32.not_lt.mp c4
      rw [fa_le] at this
      exact this
    have eH : sHow (stW3 (xS X j) (nI qn) l (nI en)) = qn := nI_clamp hqn
    have eE : sEa (stW3 (xS X j) (nI qn) l (nI en)) = en := nI_clamp hen
    have hS1 : SI (xSet X j (stW3 (xS X j) (nI qn) l (nI en)) (xR X)) := by
      refine hS.set ⟨[], (List.append_nil _).symm⟩ hS.2.1 ⟨fun _ => ⟨⟨⟨B1, by rw [eH]; exact hq5, by rw [eE]; exact he1, B4, B5, B6, B7, B8, l0, l1, B11, B12⟩, by rw [eH]; rfl, by rw [eE]; rfl, o23, okd⟩, fun k hk => ?_, h8, fun k hk w hx => ?_⟩, fun z => absurd hw (by rw [show isW (xS X j) = false from z]; decide), (hS.one hj).2.2⟩
      · show LnI _ _ _ _ _ _ (gL (xS X j) k)
        rw [hE k hk]
        exact ⟨fun x hx => (by cases hx), List.Pairwise.nil⟩
      · have hx : w ∈ gL (xS X j) k := hx
        rw [hE k hk] at hx
        cases hx
    refine v_ald0 (q := 66) dX10_window_65 rfl rfl ?_
    refine w_ga (q := 69) (j := 12) dX10_window_66 rfl hm (by decide) gf_X10_44_9 ?_
    refine v_ild1 (q := 70) dX10_window_69 rfl ?_
    refine v_ild2 (q := 71) dX10_window_70 rfl ?_
    refine w_iast (q := 72) (n := 16) dX10_window_71 rfl hm (by decide) rfl rfl rfl (by omega) ?_
    refine v_ald0 (q := 73) dX10_window_72 rfl rfl ?_
    refine w_ga (q := 76) (j := 13) dX10_window_73 rfl hm (by decide) gf_X10_47_9 ?_
    refine v_ild1 (q := 77) dX10_window_76 rfl ?_
    refine v_ild3 (q := 78) dX10_window_77 rfl ?_
    refine w_iast (q := 79) (n := 16) dX10_window_78 rfl hm (by decide) rfl rfl rfl (by omega) ?_
    refine v_ald0 (q := 80) dX10_window_79 rfl rfl ?_
    refine w_ga (q := 83) (j := 14) dX10_window_80 rfl hm (by decide) gf_X10_50_9 ?_
    refine v_ild1 (q := 84) dX10_window_83 rfl ?_
    refine v_ild4 (q := 86) dX10_window_84 rfl ?_
    refine w_iast (q := 87) (n := 16) dX10_window_86 rfl hm (by decide) rfl rfl rfl (by omega) ?_
    refine v_iconst (q := 88) (v := 1) dX10_window_87 rfl (by decide) ?_
    refine v_iret dX10_window_88 rfl ?_
    refine hQ _ ws ⟨hR.1.set ⟨rfl, rfl⟩ (fun r h1 h2 h3 i hi => ?_) (fun _ _ _ _ => rfl) (fun _ _ => rfl) rfl rfl hj ⟨⟨x1, x2, x3, x4, x5⟩, x6, x7, ⟨d1, d2, ?_, ?_, ?_⟩, y1, y2, y3, y4⟩, hR.2.1.same (fun r h1 h2 => ?_) rfl rfl, ?_⟩ hS1
    · by_cases e14 : r = 14
      · subst e14
        rw [mI_ni _ hi, mI_nr _ (by decide), mI_nr _ (by decide)]
      rw [mI_nr _ e14]
      by_cases e13 : r = 13
      · subst e13
        rw [mI_ni _ hi, mI_nr _ (by decide)]
      rw [mI_nr _ e13]
      by_cases e12 : r = 12
      · subst e12
        exact mI_ni _ hi
      · rw [mI_nr _ e12]
    · rw [mI_nr _ (by decide), mI_nr _ (by decide), mI_at]
      rfl
    · rw [mI_nr _ (by decide), mI_at]
      rfl
    · rw [mI_at]
      rfl
    · rw [mI_nr _ (by omega), mI_nr _ (by omega), mI_nr _ (by omega)]
    · obtain ⟨w1, w2, w3, w4, ⟨ne, f1, f2, f3, f4⟩, w6⟩ := hR.2.2.same (u' := sI (sI (sI u 12 j (nI qn)) 13 j l) 14 j (nI en)) (fun r h1 h2 => by rw [mI_nr _ (by omega), mI_nr _ (by omega), mI_nr _ (by omega)]) rfl rfl rfl
      have hnw : ∀ ky w es, some (j, ky, w, es) ∉ ws := fun ky w es hx => by
        have := mw_lane hR.2.2 hx
        rw [hE ky (hR.2.2.2.2.1 j ky w es hx).2.2] at this
        cases this
      have het : tot entS (xSet X j (stW3 (xS X j) (nI qn) l (nI en)) (xR X)) = tot entS X := by
        have t := tot_set entS X hj (stW3 (xS X j) (nI qn) l (nI en)) (xR X)
        have g1 : entS (stW3 (xS X j) (nI qn) l (nI en)) = sm vN (gL (xS X j)) := if_pos hw
        have g2 : entS (xS X j) = sm vN (gL (xS X j)) := if_pos hw
        omega
      refine ⟨w1, fun k o hk => ?_, fun s ky w es hx => ?_, fun s hs hW ky hk => ?_, ⟨ne, f1, f2, by rw [het]; exact f3, f4⟩, w6⟩
      · match o, hk with
        | none, hk => exact w2 k none hk
        | some (s', ky, w, es), hk =>
          have hx := List.mem_of_getElem? hk
          have q : s' ≠ j := fun z => by
            subst z
            exact hnw ky w es hx
          obtain ⟨y1, y2, y3, y4, y5, y6⟩ := w2 k _ hk
          exact ⟨y1, y2, y3, y4, by rw [xS_set_ne X _ _ q]; exact y5, y6⟩
      · have q : s ≠ j := fun z => by
          subst z
          exact hnw ky w es hx
        rw [xS_set_ne X _ _ q]
        exact w3 s ky w es hx
      · by_cases z : s = j
        · subst z
          rw [xS_set]
          exact w4 s hj hw ky hk
        · rw [xS_set_ne X _ _ z] at hW ⊢
          exact w4 s hs hW ky hk
  · exact v_if_eq (t := 40) (q := 8) dX10_window_5 (by decide) rfl (fun _ => no (fun w => hn w.1)) (fun z => absurd rfl z)
end LE6
