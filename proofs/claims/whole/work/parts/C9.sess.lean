/-! C9: the model: move, comeSession's loop and its end -/
def MvU (n k : Nat) (u u' : Mu) : Prop := (∀ r, 19 ≤ r → r ≤ 26 → mI u' r = upR (mI u r) k (mI u r n)) ∧ (∀ j, j < 19 ∨ 26 < j → mI u' j = mI u j) ∧ mL u' = mL u ∧ mF u' = mF u
section LC9
variable {g : Gl} {d : Nat} {h : Hp} {m : Nat} {Q : Option Value → Hp → Prop} {X : Sg} {s ky : Nat}
theorem q_move {u : Mu} {n k : Nat} (hm : MK h m) (hn : n < 48100) (hk : k < 48100) (h23 : mI u 23 n = 1) (hQ : ∀ u', MvU n k u u' → Q none (mh h m u')) : Call g mX10_move d [.ref m, .int (nI n), .int (nI k)] (mh h m u) Q := by
  refine Call.of [.ref m, .int (nI n), .int (nI k)] (by decide) (Nat.le_of_ble_eq_true rfl) rfl ?_
  refine v_ald0 (q := 1) dX10_move_0 rfl rfl ?_
  refine w_ga (q := 4) (j := 19) dX10_move_1 rfl hm (by decide) gf_X10_67_9 ?_
  refine v_ild2 (q := 5) dX10_move_4 rfl ?_
  refine v_ald0 (q := 6) dX10_move_5 rfl rfl ?_
  refine w_ga (q := 9) (j := 19) dX10_move_6 rfl hm (by decide) gf_X10_67_9 ?_
  refine v_ild1 (q := 10) dX10_move_9 rfl ?_
  refine w_iald (q := 11) (n := 48100) dX10_move_10 rfl hm (by decide) rfl rfl rfl (by omega) ?_
  refine w_iast (q := 12) (n := 48100) dX10_move_11 rfl hm (by decide) rfl rfl rfl (by omega) ?_
  refine v_ald0 (q := 13) dX10_move_12 rfl rfl ?_
  refine w_ga (q := 16) (j := 20) dX10_move_13 rfl hm (by decide) gf_X10_70_9 ?_
  refine v_ild2 (q := 17) dX10_move_16 rfl ?_
  refine v_ald0 (q := 18) dX10_move_17 rfl rfl ?_
  refine w_ga (q := 21) (j := 20) dX10_move_18 rfl hm (by decide) gf_X10_70_9 ?_
  refine v_ild1 (q := 22) dX10_move_21 rfl ?_
  refine w_iald (q := 23) (n := 48100) dX10_move_22 rfl hm (by decide) rfl rfl rfl (by omega) ?_
  refine w_iast (q := 24) (n := 48100) dX10_move_23 rfl hm (by decide) rfl rfl rfl (by omega) ?_
  refine v_ald0 (q := 25) dX10_move_24 rfl rfl ?_
  refine w_ga (q := 28) (j := 21) dX10_move_25 rfl hm (by decide) gf_X10_73_9 ?_
  refine v_ild2 (q := 29) dX10_move_28 rfl ?_
  refine v_ald0 (q := 30) dX10_move_29 rfl rfl ?_
  refine w_ga (q := 33) (j := 21) dX10_move_30 rfl hm (by decide) gf_X10_73_9 ?_
  refine v_ild1 (q := 34) dX10_move_33 rfl ?_
  refine w_iald (q := 35) (n := 48100) dX10_move_34 rfl hm (by decide) rfl rfl rfl (by omega) ?_
  refine w_iast (q := 36) (n := 48100) dX10_move_35 rfl hm (by decide) rfl rfl rfl (by omega) ?_
  refine v_ald0 (q := 37) dX10_move_36 rfl rfl ?_
  refine w_ga (q := 40) (j := 22) dX10_move_37 rfl hm (by decide) gf_X10_76_9 ?_
  refine v_ild2 (q := 41) dX10_move_40 rfl ?_
  refine v_ald0 (q := 42) dX10_move_41 rfl rfl ?_
  refine w_ga (q := 45) (j := 22) dX10_move_42 rfl hm (by decide) gf_X10_76_9 ?_
  refine v_ild1 (q := 46) dX10_move_45 rfl ?_
  refine w_iald (q := 47) (n := 48100) dX10_move_46 rfl hm (by decide) rfl rfl rfl (by omega) ?_
  refine w_iast (q := 48) (n := 48100) dX10_move_47 rfl hm (by decide) rfl rfl rfl (by omega) ?_
  refine v_ald0 (q := 49) dX10_move_48 rfl rfl ?_
  refine w_ga (q := 52) (j := 23) dX10_move_49 rfl hm (by decide) gf_X10_79_9 ?_
  refine v_ild2 (q := 53) dX10_move_52 rfl ?_
  refine v_ald0 (q := 54) dX10_move_53 rfl rfl ?_
  refine w_ga (q := 57) (j := 23) dX10_move_54 rfl hm (by decide) gf_X10_79_9 ?_
  refine v_ild1 (q := 58) dX10_move_57 rfl ?_
  refine w_zald (q := 59) (n := 48100) dX10_move_58 rfl hm (by decide) rfl rfl rfl (by omega) ?_
  have e23 : mI (sI (sI (sI (sI u 19 k (mI u 19 n)) 20 k (mI (sI u 19 k (mI u 19 n)) 20 n)) 21 k (mI (sI (sI u 19 k (mI u 19 n)) 20 k (mI (sI u 19 k (mI u 19 n)) 20 n)) 21 n)) 22 k (mI (sI (sI (sI u 19 k (mI u 19 n)) 20 k (mI (sI u 19 k (mI u 19 n)) 20 n)) 21 k (mI (sI (sI u 19 k (mI u 19 n)) 20 k (mI (sI u 19 k (mI u 19 n)) 20 n)) 21 n)) 22 n)) 23 n = 1 := h23
  rw [e23]
  refine w_zast (q := 60) (n := 48100) dX10_move_59 rfl hm (by decide) rfl rfl rfl (by omega) rfl ?_
  refine v_ald0 (q := 61) dX10_move_60 rfl rfl ?_
  refine w_ga (q := 64) (j := 24) dX10_move_61 rfl hm (by decide) gf_X10_82_9 ?_
  refine v_ild2 (q := 65) dX10_move_64 rfl ?_
  refine v_ald0 (q := 66) dX10_move_65 rfl rfl ?_
  refine w_ga (q := 69) (j := 24) dX10_move_66 rfl hm (by decide) gf_X10_82_9 ?_
  refine v_ild1 (q := 70) dX10_move_69 rfl ?_
  refine w_iald (q := 71) (n := 48100) dX10_move_70 rfl hm (by decide) rfl rfl rfl (by omega) ?_
  refine w_iast (q := 72) (n := 48100) dX10_move_71 rfl hm (by decide) rfl rfl rfl (by omega) ?_
  refine v_ald0 (q := 73) dX10_move_72 rfl rfl ?_
  refine w_ga (q := 76) (j := 25) dX10_move_73 rfl hm (by decide) gf_X10_85_9 ?_
  refine v_ild2 (q := 77) dX10_move_76 rfl ?_
  refine v_ald0 (q := 78) dX10_move_77 rfl rfl ?_
  refine w_ga (q := 81) (j := 25) dX10_move_78 rfl hm (by decide) gf_X10_85_9 ?_
  refine v_ild1 (q := 82) dX10_move_81 rfl ?_
  refine w_iald (q := 83) (n := 48100) dX10_move_82 rfl hm (by decide) rfl rfl rfl (by omega) ?_
  refine w_iast (q := 84) (n := 48100) dX10_move_83 rfl hm (by decide) rfl rfl rfl (by omega) ?_
  refine v_ald0 (q := 85) dX10_move_84 rfl rfl ?_
  refine w_ga (q := 88) (j := 26) dX10_move_85 rfl hm (by decide) gf_X10_88_9 ?_
  refine v_ild2 (q := 89) dX10_move_88 rfl ?_
  refine v_ald0 (q := 90) dX10_move_89 rfl rfl ?_
  refine w_ga (q := 93) (j := 26) dX10_move_90 rfl hm (by decide) gf_X10_88_9 ?_
  refine v_ild1 (q := 94) dX10_move_93 rfl ?_
  refine w_iald (q := 95) (n := 48100) dX10_move_94 rfl hm (by decide) rfl rfl rfl (by omega) ?_
  refine w_iast (q := 96) (n := 48100) dX10_move_95 rfl hm (by decide) rfl rfl rfl (by omega) ?_
  refine v_vret dX10_move_96 rfl ?_
  refine hQ _ ⟨fun r h1 h2 => ?_, fun j hj => ?_, rfl, rfl⟩
  · have : r = 19 ∨ r = 20 ∨ r = 21 ∨ r = 22 ∨ r = 23 ∨ r = 24 ∨ r = 25 ∨ r = 26 := by omega
    rcases this with e | e | e | e | e | e | e | e <;> subst e
    · rw [mI_nr _ (by decide), mI_nr _ (by decide), mI_nr _ (by decide), mI_nr _ (by decide), mI_nr _ (by decide), mI_nr _ (by decide), mI_nr _ (by decide), mI_row]
    · rw [mI_nr _ (by decide), mI_nr _ (by decide), mI_nr _ (by decide), mI_nr _ (by decide), mI_nr _ (by decide), mI_nr _ (by decide), mI_row, mI_nr _ (by decide)]
    · rw [mI_nr _ (by decide), mI_nr _ (by decide), mI_nr _ (by decide), mI_nr _ (by decide), mI_nr _ (by decide), mI_row, mI_nr _ (by decide), mI_nr _ (by decide)]
    · rw [mI_nr _ (by decide), mI_nr _ (by decide), mI_nr _ (by decide), mI_nr _ (by decide), mI_row, mI_nr _ (by decide), mI_nr _ (by decide), mI_nr _ (by decide)]
    · rw [mI_nr _ (by decide), mI_nr _ (by decide), mI_nr _ (by decide), mI_row, mI_nr _ (by decide), mI_nr _ (by decide), mI_nr _ (by decide), mI_nr _ (by decide), h23]
    · rw [mI_nr _ (by decide), mI_nr _ (by decide), mI_row, mI_nr _ (by decide), mI_nr _ (by decide), mI_nr _ (by decide), mI_nr _ (by decide), mI_nr _ (by decide)]
    · rw [mI_nr _ (by decide), mI_row, mI_nr _ (by decide), mI_nr _ (by decide), mI_nr _ (by decide), mI_nr _ (by decide), mI_nr _ (by decide), mI_nr _ (by decide)]
    · rw [mI_row, mI_nr _ (by decide), mI_nr _ (by decide), mI_nr _ (by decide), mI_nr _ (by decide), mI_nr _ (by decide), mI_nr _ (by decide), mI_nr _ (by decide)]
  · rw [mI_nr _ (by omega), mI_nr _ (by omega), mI_nr _ (by omega), mI_nr _ (by omega), mI_nr _ (by omega), mI_nr _ (by omega), mI_nr _ (by omega), mI_nr _ (by omega)]
/-- what is known of a near window -/
def NwOK (u : Mu) (X : Sg) (s ky n : Nat) (rows : List Rw) (j : Nw) : Prop := j.1 < n ∧ MWk u X j.1 (some (s, ky, j.2.1, j.2.2)) ∧ RowOK s ky rows j.2.1 ∧ ∀ i ∈ j.2.2, i < 48100
theorem cs_loop {u : Mu} {n : Nat} {l : List Nat} {rows : List Rw} {mi : Int32} {va : Int64} (hm : MK h m) (hn : n < 48100) (hl48 : l.length < 48100) (hlnd : l.Nodup) :
    ∀ (J2 J1 : List Nw) (B E : Int32) (ds : List Nat) (v : Mu), JI u v s ky n rows l J1 B E ds → l = (J1 ++ J2).map (·.1) → (∀ j ∈ J2, NwOK u X s ky n rows j) → (J2.flatMap (·.2.2) ++ ds).Nodup → (rows ++ bksL s ky rows ((J1 ++ J2).map (·.2.1))).length < 200000 →
      (∀ v' ds', JI u v' s ky n rows l (J1 ++ J2) (mnB (J2.map (·.2.1)) B) (mxE (J2.map (·.2.1)) E) ds' → V g mX10_comeSession (d + 4) 437 [.ref m, .int (nI s), .int (nI ky), .int mi, .long va, zz, .int (nI l.length), .int (tkM s ky rows ((J1 ++ J2).map (·.2.1))), .int (nI n), zz, zz, zz, zz] [] (mh h m v') Q) →
      V g mX10_comeSession (d + 4) 225 [.ref m, .int (nI s), .int (nI ky), .int mi, .long va, zz, .int (nI l.length), .int (tkM s ky rows (J1.map (·.2.1))), .int (nI n), .int (nI J1.length), zz, zz, zz] [] (mh h m v) Q := by
  intro J2
  induction J2 with
  | nil =>
    intro J1 B E ds v hJ hl hok hnd hr hQ
    rw [List.append_nil] at hl hQ
    have hlen : J1.length = l.length := by rw [hl, List.length_map]
    rw [hlen]
    refine v_ild9 (q := 227) dX10_comeSession_225 rfl ?_
    refine v_ild6 (q := 229) dX10_comeSession_227 rfl ?_
    refine v_icmp_ge (t := 437) (q := 232) dX10_comeSession_229 (by decide) rfl (fun _ => ?_) (fun z => absurd (Int32.le_refl _) z)
    refine v_fg (FG.k (FG.k (FG.k (FG.k (FG.k (FG.k (FG.k (FG.k (FG.k (FG.z (FG.z (FG.z (FG.z FG.nil))))))))))))) ?_
    exact hQ v ds hJ
  | cons j J2 ih =>
    intro J1 B E ds v hJ hl hok hnd hr hQ
    obtain ⟨k, x, es⟩ := j
    obtain ⟨o1, o2, o3, o4⟩ := hok _ List.mem_cons_self
    have hlen : l.length = J1.length + (J2.length + 1) := by rw [hl, List.length_map, List.length_append, List.length_cons]
    have hki : l[J1.length]? = some k := by
      rw [hl, List.map_append, List.getElem?_append_right (by rw [List.length_map]; omega), List.length_map, Nat.sub_self]
      rfl
    have hkJ : k ∉ J1.map (·.1) := fun z => by
      rw [hl, List.map_append, List.map_cons] at hlnd
      exact (List.nodup_append.mp hlnd).2.2 k z k List.mem_cons_self rfl
    rw [List.flatMap_cons] at hnd
    have hnd1 : (es ++ ds).Nodup := by
      have h1 : (es ++ (J2.flatMap (·.2.2) ++ ds)).Nodup := by rw [← List.append_assoc]; exact hnd
      have h2 : (es ++ ds).Sublist (es ++ (J2.flatMap (·.2.2) ++ ds)) := List.Sublist.append_left (List.sublist_append_right _ _) es
      exact h2.nodup h1
    have hr1 : (rows ++ bksL s ky rows (J1.map (·.2.1))).length < 200000 := by
      have : bksL s ky rows ((J1 ++ (k, x, es) :: J2).map (·.2.1)) = bksL s ky rows (J1.map (·.2.1)) ++ bksL s ky rows (((k, x, es) :: J2).map (·.2.1)) := by
        unfold bksL
        rw [List.map_append, List.flatMap_append]
      rw [this, List.length_append, List.length_append] at hr
      rw [List.length_append]
      omega
    refine v_ild9 (q := 227) dX10_comeSession_225 rfl ?_
    refine v_ild6 (q := 229) dX10_comeSession_227 rfl ?_
    refine v_icmp_ge (t := 437) (q := 232) dX10_comeSession_229 (by decide) rfl (fun z => absurd z (nI_ge (by omega) (by omega))) (fun _ => ?_)
    refine cs_body (d := d) (X := X) (es := es) hm hn o1 hki hkJ o2 o3 hr1 o4 hnd1 (by omega) hJ (fun v1 hJ1 => ?_)
    refine v_inc9 (q := 434) dX10_comeSession_431 rfl (by decide) rfl rfl ?_
    rw [inc1]
    refine v_goto (q := 225) dX10_comeSession_434 (by decide) ?_
    have e1 : J1 ++ (k, x, es) :: J2 = (J1 ++ [(k, x, es)]) ++ J2 := by rw [List.append_assoc]; rfl
    rw [e1] at hl hQ
    have e2 : J1.length + 1 = (J1 ++ [(k, x, es)]).length := by rw [List.length_append]; rfl
    rw [e2]
    refine ih (J1 ++ [(k, x, es)]) _ _ (es.reverse ++ ds) v1 hJ1 hl (fun j hj => hok j (List.mem_cons_of_mem _ hj)) ?_ (by rw [← e1]; exact hr) hQ
    have h3 : (J2.flatMap (·.2.2) ++ (es.reverse ++ ds)).Perm (es ++ J2.flatMap (·.2.2) ++ ds) := by
      rw [← List.append_assoc]
      refine List.Perm.append_right _ ?_
      exact ((List.reverse_perm es).append_left _).trans List.perm_append_comm
    exact h3.nodup_iff.mpr hnd
theorem cs_give {v : Mu} {k : Nat} {x : Wd} {es : List Nat} {rows1 : List Rw} {mi c6 tk : Int32} {va : Int64} (hm : MK h m) (hk : k < 48100) (hs : s < 16) (hW : MWk v X k (some (s, ky, x, es))) (h6 : mI v 6 s = gI (xS X s) 1) (h14 : mI v 14 s = nI (sEa (xS X s))) (hea : sEa (xS X s) ≤ 1000) (hh : mI v 12 s = nI (sHow (xS X s))) (hh5 : sHow (xS X s) ≤ 5) (hi : ∀ i ∈ es, i < 48100) (hl : es.length ≤ 12000) (hne : wVs x ≠ []) (hr : MRr v rows1) (hn : rows1.length + 1 < 200000) (hrow : RowOK s ky rows1 x)
    (hQ : ∀ v', GU k v v' → MRr v' (finW s ky (sHow (xS X s)) (tk ≠ 0 ∨ wE x ≤ gI (xS X s) 1 ∨ (0 < sEa (xS X s) ∧ (wVs x).length % sEa (xS X s) = 0)) rows1 x).2 → mI v' 24 k = rI (wR (finW s ky (sHow (xS X s)) (tk ≠ 0 ∨ wE x ≤ gI (xS X s) 1 ∨ (0 < sEa (xS X s) ∧ (wVs x).length % sEa (xS X s) = 0)) rows1 x).1) → Q none (mh h m v')) :
    V g mX10_comeSession (d + 4) 480 [.ref m, .int (nI s), .int (nI ky), .int mi, .long va, zz, .int c6, .int tk, .int (nI k), zz, zz, zz, zz] [] (mh h m v) Q := by
  have hlen := mw_len hW
  have give : (tk ≠ 0 ∨ wE x ≤ gI (xS X s) 1 ∨ (0 < sEa (xS X s) ∧ (wVs x).length % sEa (xS X s) = 0)) → V g mX10_comeSession (d + 4) 510 [.ref m, .int (nI s), .int (nI ky), .int mi, .long va, zz, .int c6, .int tk, .int (nI k), zz, zz, zz, zz] [] (mh h m v) Q := fun hg => by
    rw [finW_iff (gw := True) ⟨fun _ => trivial, fun _ => hg⟩] at hQ
    refine v_ald0 (q := 511) dX10_comeSession_510 rfl rfl ?_
    refine v_ild8 (q := 513) dX10_comeSession_511 rfl ?_
    refine v_callV (q := 516) (d' := d + 3) (av := [.int (nI k)]) dX10_comeSession_513 rfl ok_X10_give CL9 ml_X10_193 im_X10_give se_X10_give hm.1 (by omega) rfl rfl (Nat.le_of_ble_eq_true rfl) ?_
    refine q_give (d := d + 1) hm hk hs hW hh hh5 hi hl hne hr hn hrow (fun u3 a _ b c => ?_)
    refine v_vret dX10_comeSession_516 rfl ?_
    exact hQ u3 a b c
  refine v_ald0 (q := 481) dX10_comeSession_480 rfl rfl ?_
  refine w_ga (q := 484) (j := 6) dX10_comeSession_481 rfl hm (by decide) gf_X10_26_9 ?_
  refine v_ild1 (q := 485) dX10_comeSession_484 rfl ?_
  refine w_iald (q := 486) (n := 16) dX10_comeSession_485 rfl hm (by decide) rfl rfl rfl (by omega) ?_
  refine v_ald0 (q := 487) dX10_comeSession_486 rfl rfl ?_
  refine w_ga (q := 490) (j := 22) dX10_comeSession_487 rfl hm (by decide) gf_X10_76_9 ?_
  refine v_ild8 (q := 492) dX10_comeSession_490 rfl ?_
  refine w_iald (q := 493) (n := 48100) dX10_comeSession_492 rfl hm (by decide) rfl rfl rfl (by omega) ?_
  rw [h6, hW.2.2.2.1]
  by_cases h1 : wE x ≤ gI (xS X s) 1
  · refine v_icmp_ge (t := 510) (q := 496) dX10_comeSession_493 (by decide) rfl (fun _ => give (Or.inr (Or.inl h1))) (fun z => absurd h1 z)
  refine v_icmp_ge (t := 510) (q := 496) dX10_comeSession_493 (by decide) rfl (fun z => absurd z h1) (fun _ => ?_)
  refine v_ild7 (q := 498) dX10_comeSession_496 rfl ?_
  by_cases h0 : tk = 0
  · refine v_if_ne (t := 510) (q := 501) dX10_comeSession_498 (by decide) rfl (fun z => absurd h0 z) (fun _ => ?_)
    refine v_ald0 (q := 502) dX10_comeSession_501 rfl rfl ?_
    refine v_ild8 (q := 504) dX10_comeSession_502 rfl ?_
    refine v_callV (q := 507) (d' := d + 3) (av := [.int (nI k)]) dX10_comeSession_504 rfl ok_X10_isEarly CL9 ml_X10_190 im_X10_isEarly se_X10_isEarly hm.1 (by omega) rfl rfl (Nat.le_of_ble_eq_true rfl) ?_
    refine q_isEarly (n := es.length) hm hk hs hW.1 h14 hW.2.2.2.2.2.2.1 hea (by omega) ?_
    rw [hlen]
    by_cases h2 : 0 < sEa (xS X s) ∧ (wVs x).length % sEa (xS X s) = 0
    · rw [if_pos h2]
      refine v_if_eq (t := 516) (q := 510) dX10_comeSession_507 (by decide) rfl (fun z => absurd z (by decide)) (fun _ => give (Or.inr (Or.inr h2)))
    · rw [if_neg h2]
      refine v_if_eq (t := 516) (q := 510) dX10_comeSession_507 (by decide) rfl (fun _ => ?_) (fun z => absurd rfl z)
      have e1 : finW s ky (sHow (xS X s)) (tk ≠ 0 ∨ wE x ≤ gI (xS X s) 1 ∨ (0 < sEa (xS X s) ∧ (wVs x).length % sEa (xS X s) = 0)) rows1 x = (x, rows1) := if_neg (fun z => z.elim (fun z => z h0) (fun z => z.elim h1 h2))
      rw [e1] at hQ
      refine v_vret dX10_comeSession_516 rfl ?_
      exact hQ v (GU.rf k v) hr hW.2.2.2.2.2.1
  · refine v_if_ne (t := 510) (q := 501) dX10_comeSession_498 (by decide) rfl (fun _ => give (Or.inl h0)) (fun z => absurd z h0)
end LC9
