/-! E5: the model: mark, idle, stage, window -/
theorem SI.fold : ∀ (l : List Nat) (X : Sg), (∀ s ∈ l, s < xM X) → GO X → BI X → SI X → SI (l.foldl settle1 X) := by
  intro l
  induction l with
  | nil => exact fun X _ _ _ h => h
  | cons s l ih =>
    intro X hl hG hB hS
    obtain ⟨a, b, c, e⟩ := SI.stl hG hB hS (hl s List.mem_cons_self)
    rw [List.foldl_cons]
    exact ih _ (fun t ht => by rw [e.2.2.2.2.1]; exact hl t (List.mem_cons_of_mem _ ht)) (hG.same e.2.2.2.2) b a
theorem SI.settleS {X : Sg} (hG : GO X) (hB : BI X) (hS : SI X) : SI (settleS X) := SI.fold (List.range (xM X)) X (fun s hs => List.mem_range.mp hs) hG hB hS
section LE5
variable {g : Gl} {d : Nat} {h : Hp} {m : Nat} {Q : Option Value → Hp → Prop} {X : Sg} {ws : List (Option Mw)} {u : Mu}
theorem mr_mk {p : Nat} {x : Int32} (hR : MR u X ws) (hp : p < 8) : MR (sI u 1 p x) (xMk X p x) ws := by
  obtain ⟨⟨a, b, c, e⟩, r, w⟩ := hR
  refine ⟨⟨a, fun q hq => ?_, c, fun s h1 h2 => (e s h1 h2).same (fun j q1 q2 => mI_nr _ (by omega)) rfl⟩, r.same (fun j h1 h2 => mI_nr _ (by omega)) rfl rfl, w.same (fun j h1 h2 => mI_nr _ (by omega)) rfl rfl rfl⟩
  refine ⟨?_, (b q hq).2⟩
  show _ = upR (xP X) p x q
  by_cases z : q = p
  · subst z
    rw [mI_at, upR_at]
  · rw [mI_ni _ z, upR_ne _ _ z]
    exact (b q hq).1
theorem mr_id {p : Nat} {x : Int32} (hR : MR u X ws) (hp : p < 8) : MR (sI u 2 p x) (xId X p x) ws := by
  obtain ⟨⟨a, b, c, e⟩, r, w⟩ := hR
  refine ⟨⟨a, fun q hq => ?_, c, fun s h1 h2 => (e s h1 h2).same (fun j q1 q2 => mI_nr _ (by omega)) rfl⟩, r.same (fun j h1 h2 => mI_nr _ (by omega)) rfl rfl, w.same (fun j h1 h2 => mI_nr _ (by omega)) rfl rfl rfl⟩
  refine ⟨(b q hq).1, ?_⟩
  show _ = upR (xI X) p x q
  by_cases z : q = p
  · subst z
    rw [mI_at, upR_at]
  · rw [mI_ni _ z, upR_ne _ _ z]
    exact (b q hq).2
theorem q_mark {p mi : Int32} (hm : MK h m) (hR : MR u X ws) (hI : MI X) (hS : SI X) (hQ : MoQ h m Q (doMark X p mi).1 (doMark X p mi).2) : Call g mX10_mark (d + 6) [.ref m, .int p, .int mi] (mh h m u) Q := by
  refine Call.of [.ref m, .int p, .int mi] (by decide) (Nat.le_of_ble_eq_true rfl) rfl ?_
  have no : ¬ ((0 ≤ p ∧ p ≤ 7) ∧ (0 ≤ mi ∧ mi ≤ 200000)) → V g mX10_mark (d + 6) 17 [.ref m, .int p, .int mi] [] (mh h m u) Q := fun hn => by
    have e : doMark X p mi = (-1, X) := if_neg hn
    rw [e] at hQ
    refine v_iconst (q := 18) (v := -1) dX10_mark_17 rfl (by decide) ?_
    refine v_iret dX10_mark_18 rfl ?_
    exact hQ u ws hR hS
  refine v_ild1 (q := 1) dX10_mark_0 rfl ?_
  refine v_callS (q := 4) (d' := d + 5) (av := [.int p]) dX10_mark_1 rfl ok_X10_isPort ml_X10_235 st_X10_isPort (by omega) rfl rfl (Nat.le_of_ble_eq_true rfl) ?_
  refine q_isPort ?_
  by_cases h1 : ¬ (0 ≤ p ∧ p ≤ 7)
  · rw [b01_f h1]
    exact v_if_eq (t := 17) (q := 7) dX10_mark_4 (by decide) rfl (fun _ => no (fun q => h1 q.1)) (fun z => absurd rfl z)
  have h1 := Classical.not_not.mp h1
  rw [b01_t h1]
  refine v_if_eq (t := 17) (q := 7) dX10_mark_4 (by decide) rfl (fun z => absurd z (by decide)) (fun _ => ?_)
  refine v_ild2 (q := 8) dX10_mark_7 rfl ?_
  by_cases h2 : mi < 0
  · exact v_if_lt (t := 17) (q := 11) dX10_mark_8 (by decide) rfl (fun _ => no (fun q => absurd h2 (Int32.not_lt.mpr q.2.1))) (fun z => absurd h2 z)
  refine v_if_lt (t := 17) (q := 11) dX10_mark_8 (by decide) rfl (fun z => absurd z h2) (fun _ => ?_)
  refine v_ild2 (q := 12) dX10_mark_11 rfl ?_
  refine v_ldc (q := 14) dX10_mark_12 rfl kc_X10_97 ?_
  by_cases h3 : ¬ mi ≤ 200000
  · exact v_icmp_le (t := 19) (q := 17) dX10_mark_14 (by decide) rfl (fun z => absurd z h3) (fun _ => no (fun q => h3 q.2.2))
  have h3 := Classical.not_not.mp h3
  refine v_icmp_le (t := 19) (q := 17) dX10_mark_14 (by decide) rfl (fun _ => ?_) (fun z => absurd h3 z)
  have hb : (0 ≤ p ∧ p ≤ 7) ∧ (0 ≤ mi ∧ mi ≤ 200000) := ⟨h1, Int32.not_lt.mp h2, h3⟩
  obtain ⟨j, hj, rfl⟩ := nI_of (Int32.not_lt.mpr h1.1)
  have hp8 : j < 8 := Classical.byContradiction fun q => absurd h1.2 (show ¬ nI j ≤ nI 7 from nI_ge (by omega) hj)
  have e : doMark X (nI j) mi = if mi < xP X j then (-5, X) else (nI (xR (settleS (xMk X j mi))).length, settleS (xMk X j mi)) := by
    unfold doMark
    rw [if_pos hb, nI_clamp (by omega)]
  rw [e] at hQ
  refine v_ild2 (q := 20) dX10_mark_19 rfl ?_
  refine v_ald0 (q := 21) dX10_mark_20 rfl rfl ?_
  refine w_ga (q := 24) (j := 1) dX10_mark_21 rfl hm (by decide) gf_X10_9_9 ?_
  refine v_ild1 (q := 25) dX10_mark_24 rfl ?_
  refine w_iald (q := 26) (n := 8) dX10_mark_25 rfl hm (by decide) rfl rfl rfl (by omega) ?_
  rw [(hR.1.2.1 j hp8).1]
  by_cases hl : mi < xP X j
  · rw [if_pos hl] at hQ
    refine v_icmp_ge (t := 32) (q := 29) dX10_mark_26 (by decide) rfl (fun z => absurd hl (Int32.not_lt.mpr z)) (fun _ => ?_)
    refine v_bipush (q := 31) (v := -5) dX10_mark_29 rfl (by decide) ?_
    refine v_iret dX10_mark_31 rfl ?_
    exact hQ u ws hR hS
  rw [if_neg hl] at hQ
  refine v_icmp_ge (t := 32) (q := 29) dX10_mark_26 (by decide) rfl (fun _ => ?_) (fun z => absurd (Int32.not_lt.mp hl) z)
  have hC := hI.2.2.1
  have hT := hI.2.2.2.1
  have hS1 : SI (xMk X j mi) := ⟨hS.1, hS.2.1, fun q hq => by
    show 0 ≤ (upR (xP X) j mi q).toInt ∧ (upR (xP X) j mi q).toInt ≤ 200000
    by_cases z : q = j
    · subst z
      rw [upR_at]
      have a := hb.2.1
      have b := hb.2.2
      rw [fa_le] at a b
      exact ⟨a, b⟩
    · rw [upR_ne _ _ z]
      exact hS.2.2 q hq⟩
  refine v_ald0 (q := 33) dX10_mark_32 rfl rfl ?_
  refine w_ga (q := 36) (j := 1) dX10_mark_33 rfl hm (by decide) gf_X10_9_9 ?_
  refine v_ild1 (q := 37) dX10_mark_36 rfl ?_
  refine v_ild2 (q := 38) dX10_mark_37 rfl ?_
  refine w_iast (q := 39) (n := 8) dX10_mark_38 rfl hm (by decide) rfl rfl rfl (by omega) ?_
  refine v_ald0 (q := 40) dX10_mark_39 rfl rfl ?_
  refine v_callV (q := 43) (d' := d + 5) (av := []) dX10_mark_40 rfl ok_X10_marks CL9 ml_X10_141 im_X10_marks se_X10_marks hm.1 (by omega) rfl rfl (Nat.le_of_ble_eq_true rfl) ?_
  refine q_marks (d := d) (X := xMk X j mi) hm (mr_mk hR hp8) hI.1 hI.2.1 hS1 (show tot camS X ≤ 12000 by omega) (fun u' ws' hR' => ?_)
  refine v_ald0 (q := 44) dX10_mark_43 rfl rfl ?_
  refine w_gi (q := 47) dX10_mark_44 rfl hm gf_X10_155_9 ?_
  rw [hR'.2.1.1]
  refine v_iret dX10_mark_47 rfl ?_
  exact hQ u' ws' hR' (hS1.settleS hI.1 hI.2.1)
theorem q_idle {p b : Int32} (hm : MK h m) (hR : MR u X ws) (hI : MI X) (hS : SI X) (hQ : MoQ h m Q (doIdle X p b).1 (doIdle X p b).2) : Call g mX10_idle (d + 6) [.ref m, .int p, .int b] (mh h m u) Q := by
  refine Call.of [.ref m, .int p, .int b, zz] (by decide) (Nat.le_of_ble_eq_true rfl) rfl ?_
  have no : ¬ ((0 ≤ p ∧ p ≤ 7) ∧ (0 ≤ b ∧ b ≤ 1)) → V g mX10_idle (d + 6) 16 [.ref m, .int p, .int b, zz] [] (mh h m u) Q := fun hn => by
    have e : doIdle X p b = (-1, X) := if_neg hn
    rw [e] at hQ
    refine v_iconst (q := 17) (v := -1) dX10_idle_16 rfl (by decide) ?_
    refine v_iret dX10_idle_17 rfl ?_
    exact hQ u ws hR hS
  refine v_ild1 (q := 1) dX10_idle_0 rfl ?_
  refine v_callS (q := 4) (d' := d + 5) (av := [.int p]) dX10_idle_1 rfl ok_X10_isPort ml_X10_235 st_X10_isPort (by omega) rfl rfl (Nat.le_of_ble_eq_true rfl) ?_
  refine q_isPort ?_
  by_cases h1 : ¬ (0 ≤ p ∧ p ≤ 7)
  · rw [b01_f h1]
    exact v_if_eq (t := 16) (q := 7) dX10_idle_4 (by decide) rfl (fun _ => no (fun q => h1 q.1)) (fun z => absurd rfl z)
  have h1 := Classical.not_not.mp h1
  rw [b01_t h1]
  refine v_if_eq (t := 16) (q := 7) dX10_idle_4 (by decide) rfl (fun z => absurd z (by decide)) (fun _ => ?_)
  refine v_ild2 (q := 8) dX10_idle_7 rfl ?_
  by_cases h2 : b < 0
  · exact v_if_lt (t := 16) (q := 11) dX10_idle_8 (by decide) rfl (fun _ => no (fun q => absurd h2 (Int32.not_lt.mpr q.2.1))) (fun z => absurd h2 z)
  refine v_if_lt (t := 16) (q := 11) dX10_idle_8 (by decide) rfl (fun z => absurd z h2) (fun _ => ?_)
  refine v_ild2 (q := 12) dX10_idle_11 rfl ?_
  refine v_iconst (q := 13) (v := 1) dX10_idle_12 rfl (by decide) ?_
  by_cases h3 : ¬ b ≤ 1
  · exact v_icmp_le (t := 18) (q := 16) dX10_idle_13 (by decide) rfl (fun z => absurd z h3) (fun _ => no (fun q => h3 q.2.2))
  have h3 := Classical.not_not.mp h3
  refine v_icmp_le (t := 18) (q := 16) dX10_idle_13 (by decide) rfl (fun _ => ?_) (fun z => absurd h3 z)
  have hb : (0 ≤ p ∧ p ≤ 7) ∧ (0 ≤ b ∧ b ≤ 1) := ⟨h1, Int32.not_lt.mp h2, h3⟩
  obtain ⟨j, hj, rfl⟩ := nI_of (Int32.not_lt.mpr h1.1)
  have hp8 : j < 8 := Classical.byContradiction fun q => absurd h1.2 (show ¬ nI j ≤ nI 7 from nI_ge (by omega) hj)
  have e : doIdle X (nI j) b = (if xI X j = 0 then 0 else 1, settleS (xId X j (if b = 1 then 1 else 0))) := by
    unfold doIdle
    rw [if_pos hb, nI_clamp (by omega)]
  rw [e] at hQ
  have hC := hI.2.2.1
  have hT := hI.2.2.2.1
  have last : ∀ x was : Int32, x = (if b = 1 then 1 else 0) → was = (if xI X j = 0 then 0 else 1) → V g mX10_idle (d + 6) 48 [.ref m, .int (nI j), .int b, .int was] [.int x, .int (nI j), .ref (m + 2)] (mh h m u) Q := fun x was ex ew => by
    have hnar : narrow .boolean (.int x) = .int x := by
      rw [ex]
      split <;> rfl
    refine w_zast (q := 49) (n := 8) dX10_idle_48 rfl hm (by decide) rfl rfl rfl (by omega) hnar ?_
    rw [← ex, ← ew] at hQ
    have hS1 : SI (xId X j x) := hS
    refine v_ald0 (q := 50) dX10_idle_49 rfl rfl ?_
    refine v_callV (q := 53) (d' := d + 5) (av := []) dX10_idle_50 rfl ok_X10_marks CL9 ml_X10_141 im_X10_marks se_X10_marks hm.1 (by omega) rfl rfl (Nat.le_of_ble_eq_true rfl) ?_
    refine q_marks (d := d) (X := xId X j x) hm (mr_id hR hp8) hI.1 hI.2.1 hS1 (show tot camS X ≤ 12000 by omega) (fun u' ws' hR' => ?_)
    refine v_ild3 (q := 54) dX10_idle_53 rfl ?_
    refine v_iret dX10_idle_54 rfl ?_
    exact hQ u' ws' hR' (hS1.settleS hI.1 hI.2.1)
  have mid : ∀ was : Int32, was = (if xI X j = 0 then 0 else 1) → V g mX10_idle (d + 6) 32 [.ref m, .int (nI j), .int b, zz] [.int was] (mh h m u) Q := fun was ew => by
    refine v_ist3 (q := 33) dX10_idle_32 rfl (by decide) rfl ?_
    refine v_ald0 (q := 34) dX10_idle_33 rfl rfl ?_
    refine w_ga (q := 37) (j := 2) dX10_idle_34 rfl hm (by decide) gf_X10_13_9 ?_
    refine v_ild1 (q := 38) dX10_idle_37 rfl ?_
    refine v_ild2 (q := 39) dX10_idle_38 rfl ?_
    refine v_iconst (q := 40) (v := 1) dX10_idle_39 rfl (by decide) ?_
    by_cases b1 : b = 1
    · refine v_icmp_ne (t := 47) (q := 43) dX10_idle_40 (by decide) rfl (fun z => absurd b1 z) (fun _ => ?_)
      refine v_iconst (q := 44) (v := 1) dX10_idle_43 rfl (by decide) ?_
      refine v_goto (q := 48) dX10_idle_44 (by decide) ?_
      exact last 1 was (if_pos b1).symm ew
    · refine v_icmp_ne (t := 47) (q := 43) dX10_idle_40 (by decide) rfl (fun _ => ?_) (fun z => absurd z b1)
      refine v_iconst (q := 48) (v := 0) dX10_idle_47 rfl (by decide) ?_
      exact last 0 was (if_neg b1).symm ew
  refine v_ald0 (q := 19) dX10_idle_18 rfl rfl ?_
  refine w_ga (q := 22) (j := 2) dX10_idle_19 rfl hm (by decide) gf_X10_13_9 ?_
  refine v_ild1 (q := 23) dX10_idle_22 rfl ?_
  refine w_zald (q := 24) (n := 8) dX10_idle_23 rfl hm (by decide) rfl rfl rfl (by omega) ?_
  rw [(hR.1.2.1 j hp8).2]
  by_cases i0 : xI X j = 0
  · refine v_if_eq (t := 31) (q := 27) dX10_idle_24 (by decide) rfl (fun _ => ?_) (fun z => absurd i0 z)
    refine v_iconst (q := 32) (v := 0) dX10_idle_31 rfl (by decide) ?_
    exact mid 0 (if_pos i0).symm
  · refine v_if_eq (t := 31) (q := 27) dX10_idle_24 (by decide) rfl (fun z => absurd z i0) (fun _ => ?_)
    refine v_iconst (q := 28) (v := 1) dX10_idle_27 rfl (by decide) ?_
    refine v_goto (q := 32) dX10_idle_28 (by decide) ?_
    exact mid 1 (if_neg i0).symm
theorem q_isRight {H : Hp} {kd a b : Int32} (k0 : 0 ≤ kd.toInt) (k6 : kd.toInt ≤ 6) (hQ : Q (some (.int (if saidB kd a b then 1 else 0))) H) : Call g mX10_isRight d [.int kd, .int a, .int b] H Q := by
  refine Call.of [.int kd, .int a, .int b] (by decide) (Nat.le_of_ble_eq_true rfl) rfl ?_
  refine v_ild0 (q := 1) dX10_isRight_0 rfl ?_
  by_cases h0 : kd = 0
  · subst h0
    refine v_tableIn 0 (t := 40) dX10_isRight_1 (by decide) (by decide) rfl (by decide) ?_
    have e : saidB 0 a b = decide (0 ≤ b ∧ b ≤ 1000) := rfl
    have no : ¬ (0 ≤ b ∧ b ≤ 1000) → V g mX10_isRight d 55 [.int 0, .int a, .int b] [] H Q := fun hn => by
      rw [e, decide_eq_false hn] at hQ
      refine v_iconst (q := 56) (v := 0) dX10_isRight_55 rfl (by decide) ?_
      refine v_zret dX10_isRight_56 rfl rfl ?_
      exact hQ
    refine v_ild2 (q := 41) dX10_isRight_40 rfl ?_
    by_cases c1 : b < 0
    · exact v_if_lt (t := 55) (q := 44) dX10_isRight_41 (by decide) rfl (fun _ => no (fun q => absurd c1 (Int32.not_lt.mpr q.1))) (fun z => absurd c1 z)
    refine v_if_lt (t := 55) (q := 44) dX10_isRight_41 (by decide) rfl (fun z => absurd z c1) (fun _ => ?_)
    refine v_ild2 (q := 45) dX10_isRight_44 rfl ?_
    refine v_sipush (q := 48) (v := 1000) dX10_isRight_45 rfl (by decide) ?_
    by_cases c2 : 1000 < b
    · exact v_icmp_gt (t := 55) (q := 51) dX10_isRight_48 (by decide) rfl (fun _ => no (fun q => absurd c2 (Int32.not_lt.mpr q.2))) (fun z => absurd c2 z)
    refine v_icmp_gt (t := 55) (q := 51) dX10_isRight_48 (by decide) rfl (fun z => absurd z c2) (fun _ => ?_)
    rw [e, decide_eq_true ⟨Int32.not_lt.mp c1, Int32.not_lt.mp c2⟩] at hQ
    refine v_iconst (q := 52) (v := 1) dX10_isRight_51 rfl (by decide) ?_
    refine v_goto (q := 56) dX10_isRight_52 (by decide) ?_
    refine v_zret dX10_isRight_56 rfl rfl ?_
    exact hQ
  by_cases h1 : kd = 1
  · subst h1
    refine v_tableIn 1 (t := 57) dX10_isRight_1 (by decide) (by decide) rfl (by decide) ?_
    refine v_iconst (q := 58) (v := 1) dX10_isRight_57 rfl (by decide) ?_
    refine v_zret dX10_isRight_58 rfl rfl ?_
    exact hQ
  by_cases h2 : kd = 2
  · subst h2
    refine v_tableIn 2 (t := 57) dX10_isRight_1 (by decide) (by decide) rfl (by decide) ?_
    refine v_iconst (q := 58) (v := 1) dX10_isRight_57 rfl (by decide) ?_
    refine v_zret dX10_isRight_58 rfl rfl ?_
    exact hQ
  by_cases h3 : kd = 3
  · subst h3
    refine v_tableIn 3 (t := 59) dX10_isRight_1 (by decide) (by decide) rfl (by decide) ?_
    have e : saidB 3 a b = decide (1 ≤ a ∧ a ≤ 1000) := rfl
    have no : ¬ (1 ≤ a ∧ a ≤ 1000) → V g mX10_isRight d 75 [.int 3, .int a, .int b] [] H Q := fun hn => by
      rw [e, decide_eq_false hn] at hQ
      refine v_iconst (q := 76) (v := 0) dX10_isRight_75 rfl (by decide) ?_
      refine v_zret dX10_isRight_76 rfl rfl ?_
      exact hQ
    refine v_ild1 (q := 60) dX10_isRight_59 rfl ?_
    refine v_iconst (q := 61) (v := 1) dX10_isRight_60 rfl (by decide) ?_
    by_cases c1 : a < 1
    · exact v_icmp_lt (t := 75) (q := 64) dX10_isRight_61 (by decide) rfl (fun _ => no (fun q => absurd c1 (Int32.not_lt.mpr q.1))) (fun z => absurd c1 z)
    refine v_icmp_lt (t := 75) (q := 64) dX10_isRight_61 (by decide) rfl (fun z => absurd z c1) (fun _ => ?_)
    refine v_ild1 (q := 65) dX10_isRight_64 rfl ?_
    refine v_sipush (q := 68) (v := 1000) dX10_isRight_65 rfl (by decide) ?_
    by_cases c2 : 1000 < a
    · exact v_icmp_gt (t := 75) (q := 71) dX10_isRight_68 (by decide) rfl (fun _ => no (fun q => absurd c2 (Int32.not_lt.mpr q.2))) (fun z => absurd c2 z)
    refine v_icmp_gt (t := 75) (q := 71) dX10_isRight_68 (by decide) rfl (fun z => absurd z c2) (fun _ => ?_)
    rw [e, decide_eq_true ⟨Int32.not_lt.mp c1, Int32.not_lt.mp c2⟩] at hQ
    refine v_iconst (q := 72) (v := 1) dX10_isRight_71 rfl (by decide) ?_
    refine v_goto (q := 76) dX10_isRight_72 (by decide) ?_
    refine v_zret dX10_isRight_76 rfl rfl ?_
    exact hQ
  by_cases h4 : kd = 4
  · subst h4
    refine v_tableIn 4 (t := 77) dX10_isRight_1 (by decide) (by decide) rfl (by decide) ?_
    have e : saidB 4 a b = decide (1 ≤ a ∧ a ≤ 10000) := rfl
    have no : ¬ (1 ≤ a ∧ a ≤ 10000) → V g mX10_isRight d 93 [.int 4, .int a, .int b] [] H Q := fun hn => by
      rw [e, decide_eq_false hn] at hQ
      refine v_iconst (q := 94) (v := 0) dX10_isRight_93 rfl (by decide) ?_
      refine v_zret dX10_isRight_94 rfl rfl ?_
      exact hQ
    refine v_ild1 (q := 78) dX10_isRight_77 rfl ?_
    refine v_iconst (q := 79) (v := 1) dX10_isRight_78 rfl (by decide) ?_
    by_cases c1 : a < 1
    · exact v_icmp_lt (t := 93) (q := 82) dX10_isRight_79 (by decide) rfl (fun _ => no (fun q => absurd c1 (Int32.not_lt.mpr q.1))) (fun z => absurd c1 z)
    refine v_icmp_lt (t := 93) (q := 82) dX10_isRight_79 (by decide) rfl (fun z => absurd z c1) (fun _ => ?_)
    refine v_ild1 (q := 83) dX10_isRight_82 rfl ?_
    refine v_sipush (q := 86) (v := 10000) dX10_isRight_83 rfl (by decide) ?_
    by_cases c2 : 10000 < a
    · exact v_icmp_gt (t := 93) (q := 89) dX10_isRight_86 (by decide) rfl (fun _ => no (fun q => absurd c2 (Int32.not_lt.mpr q.2))) (fun z => absurd c2 z)
    refine v_icmp_gt (t := 93) (q := 89) dX10_isRight_86 (by decide) rfl (fun z => absurd z c2) (fun _ => ?_)
    rw [e, decide_eq_true ⟨Int32.not_lt.mp c1, Int32.not_lt.mp c2⟩] at hQ
    refine v_iconst (q := 90) (v := 1) dX10_isRight_89 rfl (by decide) ?_
    refine v_goto (q := 94) dX10_isRight_90 (by decide) ?_
    refine v_zret dX10_isRight_94 rfl rfl ?_
    exact hQ
  by_cases h5 : kd = 5
  · subst h5
    refine v_tableIn 5 (t := 95) dX10_isRight_1 (by decide) (by decide) rfl (by decide) ?_
    have e : saidB 5 a b = decide ((1 ≤ a ∧ a ≤ 10000) ∧ (1 ≤ b ∧ b ≤ a) ∧ a ≤ 4 * b) := rfl
    have no : ¬ ((1 ≤ a ∧ a ≤ 10000) ∧ (1 ≤ b ∧ b ≤ a) ∧ a ≤ 4 * b) → V g mX10_isRight d 128 [.int 5, .int a, .int b] [] H Q := fun hn => by
      rw [e, decide_eq_false hn] at hQ
      refine v_iconst (q := 129) (v := 0) dX10_isRight_128 rfl (by decide) ?_
      refine v_zret dX10_isRight_129 rfl rfl ?_
      exact hQ
    refine v_ild1 (q := 96) dX10_isRight_95 rfl ?_
    refine v_iconst (q := 97) (v := 1) dX10_isRight_96 rfl (by decide) ?_
    by_cases c1 : a < 1
    · exact v_icmp_lt (t := 128) (q := 100) dX10_isRight_97 (by decide) rfl (fun _ => no (fun q => absurd c1 (Int32.not_lt.mpr q.1.1))) (fun z => absurd c1 z)
    refine v_icmp_lt (t := 128) (q := 100) dX10_isRight_97 (by decide) rfl (fun z => absurd z c1) (fun _ => ?_)
    refine v_ild1 (q := 101) dX10_isRight_100 rfl ?_
    refine v_sipush (q := 104) (v := 10000) dX10_isRight_101 rfl (by decide) ?_
    by_cases c2 : 10000 < a
    · exact v_icmp_gt (t := 128) (q := 107) dX10_isRight_104 (by decide) rfl (fun _ => no (fun q => absurd c2 (Int32.not_lt.mpr q.1.2))) (fun z => absurd c2 z)
    refine v_icmp_gt (t := 128) (q := 107) dX10_isRight_104 (by decide) rfl (fun z => absurd z c2) (fun _ => ?_)
    refine v_ild2 (q := 108) dX10_isRight_107 rfl ?_
    refine v_iconst (q := 109) (v := 1) dX10_isRight_108 rfl (by decide) ?_
    by_cases c3 : b < 1
    · exact v_icmp_lt (t := 128) (q := 112) dX10_isRight_109 (by decide) rfl (fun _ => no (fun q => absurd c3 (Int32.not_lt.mpr q.2.1.1))) (fun z => absurd c3 z)
    refine v_icmp_lt (t := 128) (q := 112) dX10_isRight_109 (by decide) rfl (fun z => absurd z c3) (fun _ => ?_)
    refine v_ild2 (q := 113) dX10_isRight_112 rfl ?_
    refine v_ild1 (q := 114) dX10_isRight_113 rfl ?_
    by_cases c4 : a < b
    · exact v_icmp_gt (t := 128) (q := 117) dX10_isRight_114 (by decide) rfl (fun _ => no (fun q => absurd c4 (Int32.not_lt.mpr q.2.1.2))) (fun z => absurd c4 z)
    refine v_icmp_gt (t := 128) (q := 117) dX10_isRight_114 (by decide) rfl (fun z => absurd z c4) (fun _ => ?_)
    refine v_ild1 (q := 118) dX10_isRight_117 rfl ?_
    refine v_iconst (q := 119) (v := 4) dX10_isRight_118 rfl (by decide) ?_
    refine v_ild2 (q := 120) dX10_isRight_119 rfl ?_
    refine v_imul (q := 121) dX10_isRight_120 rfl ?_
    by_cases c5 : 4 * b < a
    · exact v_icmp_gt (t := 128) (q := 124) dX10_isRight_121 (by decide) rfl (fun _ => no (fun q => absurd c5 (Int32.not_lt.mpr q.2.2))) (fun z => absurd c5 z)
    refine v_icmp_gt (t := 128) (q := 124) dX10_isRight_121 (by decide) rfl (fun z => absurd z c5) (fun _ => ?_)
    rw [e, decide_eq_true ⟨⟨Int32.not_lt.mp c1, Int32.not_lt.mp c2⟩, ⟨Int32.not_lt.mp c3, Int32.not_lt.mp c4⟩, Int32.not_lt.mp c5⟩] at hQ
    refine v_iconst (q := 125) (v := 1) dX10_isRight_124 rfl (by decide) ?_
    refine v_goto (q := 129) dX10_isRight_125 (by decide) ?_
    refine v_zret dX10_isRight_129 rfl rfl ?_
    exact hQ
  have n5 : kd.toInt = 6 := by
    rw [fa_eq] at h0 h1 h2 h3 h4 h5
    have i0 : (0 : Int32).toInt = 0 := by decide
    have i1 : (1 : Int32).toInt = 1 := by decide
    have i2 : (2 : Int32).toInt = 2 := by decide
    have i3 : (3 : Int32).toInt = 3 := by decide
    have i4 : (4 : Int32).toInt = 4 := by decide
    have i5 : (5 : Int32).toInt = 5 := by decide
    omega
  have h6 : kd = 6 := by
    rw [fa_eq, n5]
    decide
  subst h6
  refine v_tableOut (t := 130) dX10_isRight_1 (by decide) (by decide) ?_
  have e : saidB 6 a b = decide (0 ≤ a ∧ a ≤ 10000) := rfl
  have no : ¬ (0 ≤ a ∧ a ≤ 10000) → V g mX10_isRight d 145 [.int 6, .int a, .int b] [] H Q := fun hn => by
    rw [e, decide_eq_false hn] at hQ
    refine v_iconst (q := 146) (v := 0) dX10_isRight_145 rfl (by decide) ?_
    refine v_zret dX10_isRight_146 rfl rfl ?_
    exact hQ
  refine v_ild1 (q := 131) dX10_isRight_130 rfl ?_
  by_cases c1 : a < 0
  · exact v_if_lt (t := 145) (q := 134) dX10_isRight_131 (by decide) rfl (fun _ => no (fun q => absurd c1 (Int32.not_lt.mpr q.1))) (fun z => absurd c1 z)
  refine v_if_lt (t := 145) (q := 134) dX10_isRight_131 (by decide) rfl (fun z => absurd z c1) (fun _ => ?_)
  refine v_ild1 (q := 135) dX10_isRight_134 rfl ?_
  refine v_sipush (q := 138) (v := 10000) dX10_isRight_135 rfl (by decide) ?_
  by_cases c2 : 10000 < a
  · exact v_icmp_gt (t := 145) (q := 141) dX10_isRight_138 (by decide) rfl (fun _ => no (fun q => absurd c2 (Int32.not_lt.mpr q.2))) (fun z => absurd c2 z)
  refine v_icmp_gt (t := 145) (q := 141) dX10_isRight_138 (by decide) rfl (fun z => absurd z c2) (fun _ => ?_)
  rw [e, decide_eq_true ⟨Int32.not_lt.mp c1, Int32.not_lt.mp c2⟩] at hQ
  refine v_iconst (q := 142) (v := 1) dX10_isRight_141 rfl (by decide) ?_
  refine v_goto (q := 146) dX10_isRight_142 (by decide) ?_
  refine v_zret dX10_isRight_146 rfl rfl ?_
  exact hQ
end LE5
