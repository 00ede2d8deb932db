/-! 89: WindowMill: leftRow, about, apart, count -/
def sSty (S : Stg) : Int := styI (sSes S) (sSp S) (gI S 21)
def aLeftRow (X : Sg) (s i : Int32) : Int32 := onS X s (fun S => if isW S then (if i < 0 then -1 else ((lefts (gL S) 0 1000)[i.toNatClampNeg]?.map nI).getD (-1)) else -1) (-1)
def aApart (X : Sg) (s : Int32) : Int32 := onS X s (fun S => if isW S then nI (wrgs (sHow S) (gI S 1) (xR X) (gL S) 1000) else -2) (-1)
def opS (S : Stg) : Nat := if isW S then sm (cT (sSty S) (gI S 1)) (gL S) else 0
def heS (S : Stg) : Nat := if isW S then sm (cH (sSty S) (gI S 1)) (gL S) else 0
def abt (S : Stg) (w : Int32) : Int32 := if w = 0 then gI S 3 else if w = 1 then gI S 1 else if w = 2 then gI S 4 else if w = 3 then (if isW S then gI S 23 else 0) else if w = 4 then nI (opS S) else if w = 5 then nI (heS S) else if w = 6 then nI (cntB (gF S) 24) else if w = 7 then (if gI S 2 = 0 then 0 else 1) else -1
def aAbout (X : Sg) (s w : Int32) : Int32 := onS X s (fun S => abt S w) (-1)
def aCount (X : Sg) (w : Int32) : Int32 := if w = 0 then nI (xM X) else if w = 1 then nI (xT X) else if w = 2 then nI (fb_sm (fun s => opS (xS X s)) (xM X)) else -1
section L89
variable {g : Gl} {d : Nat} {h : Hp} {Q : Option Value → Hp → Prop} {ow : Nat → Nat} {c lg SA ST WY : Nat} {po sp us uz : Nat → Nat} {X : Sg}
theorem MV.st {j : Nat} (hM : MV g h ow c lg SA ST WY po sp X us uz) (hj : j < xM X) : StV g h ow j (sp j) lg (xS X j) (xR X) (us j) (uz j) := ((hM.2.2.2.1 j (Nat.lt_of_lt_of_le hj hM.2.2.2.2.1)).1 hj).2.2
theorem k_leftRow {s i : Int32} (hM : MV g h ow c lg SA ST WY po sp X us uz) (hQ : Q (some (.int (aLeftRow X s i))) h) : Call g mX9_leftRow (d + 5) [.ref c, .int s, .int i] h Q := by
  refine Call.of [.ref c, .int s, .int i, zz, zz] (by decide) (Nat.le_of_ble_eq_true rfl) rfl ?_
  have a1 : hK h c = 9 := hM.1.1
  refine v_ald0 (q := 1) dX9_leftRow_0 rfl rfl ?_
  refine v_ild1 (q := 2) dX9_leftRow_1 rfl ?_
  refine v_callV (q := 5) (d' := d + 4) (av := [.int s]) dX9_leftRow_2 rfl ok_X9_stageAt CL8 ml_X9_51 im_X9_stageAt se_X9_stageAt (by assumption) (by omega) rfl rfl (Nat.le_of_ble_eq_true rfl) ?_
  refine mv_stageAt hM (fun j hij hj => ?_) (fun hi => ?_)
  · subst hij
    have hS := hM.st hj
    unfold aLeftRow at hQ
    rw [onS_in hM.2.2.2.2.1 hj] at hQ
    refine v_ast4 (q := 7) dX9_leftRow_5 rfl (by decide) rfl rfl ?_
    refine v_ald4 (q := 9) dX9_leftRow_7 rfl rfl ?_
    rcases hS.2 with ⟨w1, w2, _, A, q1, q2, w3⟩ | ⟨w1, w2, _⟩
    · rw [if_pos w1] at hQ
      refine v_inst (q := 12) dX9_leftRow_9 rfl CL7 cl_X9_41 w2 ?_
      refine v_if_eq (t := 29) (q := 15) dX9_leftRow_12 (by decide) rfl (fun hc => absurd hc (by decide)) (fun _ => ?_)
      refine v_ald4 (q := 17) dX9_leftRow_15 rfl rfl ?_
      refine v_cast (q := 20) dX9_leftRow_17 rfl CL7 cl_X9_41 w2 ?_
      refine v_ast3 (q := 21) dX9_leftRow_20 rfl (by decide) rfl rfl ?_
      refine v_ald3 (q := 22) dX9_leftRow_21 rfl rfl ?_
      refine v_ild2 (q := 23) dX9_leftRow_22 rfl ?_
      refine v_callV (q := 26) (d' := d + 4) (av := [.int i]) dX9_leftRow_23 rfl ok_X8_rowLeft CL7 ml_X9_157 im_X8_rowLeft se_X8_rowLeft (by assumption) (by omega) rfl rfl (Nat.le_of_ble_eq_true rfl) ?_
      have hlg := w3.log.1.kd.2.2.2
      obtain ⟨ac, D1, D2, s1, c1, b1, s2, c2, b2, W, _, _, hI, _⟩ := w3
      refine k_rowLeft (d := d) W (fun k hk x hx r hr => ?_) ?_
      · obtain ⟨y, hy⟩ := ((hI k hk).1 x hx).2.1 r hr
        have := (List.getElem?_eq_some_iff.mp hy).1
        omega
      refine v_goto (q := 30) dX9_leftRow_26 (by decide) ?_
      refine v_iret dX9_leftRow_30 rfl ?_
      exact hQ
    · rw [if_neg (by rw [w1]; decide)] at hQ
      refine v_instNo (q := 12) dX9_leftRow_9 rfl CL4 cl_X9_41 (by decide) w2 ?_
      refine v_if_eq (t := 29) (q := 15) dX9_leftRow_12 (by decide) rfl (fun _ => ?_) (fun hc => absurd rfl hc)
      refine v_iconst (q := 30) (v := -1) dX9_leftRow_29 rfl (by decide) ?_
      refine v_iret dX9_leftRow_30 rfl ?_
      exact hQ
  · unfold aLeftRow at hQ
    rw [onS_out hi] at hQ
    refine v_ast4 (q := 7) dX9_leftRow_5 rfl (by decide) rfl rfl ?_
    refine v_ald4 (q := 9) dX9_leftRow_7 rfl rfl ?_
    refine v_instN (q := 12) dX9_leftRow_9 rfl ?_
    refine v_if_eq (t := 29) (q := 15) dX9_leftRow_12 (by decide) rfl (fun _ => ?_) (fun hc => absurd rfl hc)
    refine v_iconst (q := 30) (v := -1) dX9_leftRow_29 rfl (by decide) ?_
    refine v_iret dX9_leftRow_30 rfl ?_
    exact hQ
theorem k_apart {s : Int32} (hM : MV g h ow c lg SA ST WY po sp X us uz) (hv : ∀ j, j < xM X → isW (xS X j) = true → sm vN (gL (xS X j)) < 100000) (hQ : Q (some (.int (aApart X s))) h) : Call g mX9_apart (d + 5) [.ref c, .int s] h Q := by
  refine Call.of [.ref c, .int s, zz, zz] (by decide) (Nat.le_of_ble_eq_true rfl) rfl ?_
  have a1 : hK h c = 9 := hM.1.1
  refine v_ald0 (q := 1) dX9_apart_0 rfl rfl ?_
  refine v_ild1 (q := 2) dX9_apart_1 rfl ?_
  refine v_callV (q := 5) (d' := d + 4) (av := [.int s]) dX9_apart_2 rfl ok_X9_stageAt CL8 ml_X9_51 im_X9_stageAt se_X9_stageAt (by assumption) (by omega) rfl rfl (Nat.le_of_ble_eq_true rfl) ?_
  refine mv_stageAt hM (fun j hij hj => ?_) (fun hi => ?_)
  · subst hij
    have hS := hM.st hj
    unfold aApart at hQ
    rw [onS_in hM.2.2.2.2.1 hj] at hQ
    refine v_ast2 (q := 6) dX9_apart_5 rfl (by decide) rfl rfl ?_
    refine v_ald2 (q := 7) dX9_apart_6 rfl rfl ?_
    refine v_ifnonnull (r := some (sp j)) (t := 12) (q := 10) dX9_apart_7 (by decide) rfl (fun _ _ => ?_) (fun ha => by cases ha)
    refine v_ald2 (q := 13) dX9_apart_12 rfl rfl ?_
    rcases hS.2 with ⟨w1, w2, hO, A, q1, q2, w3⟩ | ⟨w1, w2, _⟩
    · rw [if_pos w1] at hQ
      refine v_inst (q := 16) dX9_apart_13 rfl CL7 cl_X9_41 w2 ?_
      refine v_if_eq (t := 31) (q := 19) dX9_apart_16 (by decide) rfl (fun hc => absurd hc (by decide)) (fun _ => ?_)
      refine v_ald2 (q := 20) dX9_apart_19 rfl rfl ?_
      refine v_cast (q := 23) dX9_apart_20 rfl CL7 cl_X9_41 w2 ?_
      refine v_ast3 (q := 24) dX9_apart_23 rfl (by decide) rfl rfl ?_
      refine v_ald3 (q := 25) dX9_apart_24 rfl rfl ?_
      refine v_callV (q := 28) (d' := d + 4) (av := []) dX9_apart_25 rfl ok_X8_wrongRows CL7 ml_X9_187 im_X8_wrongRows se_X8_wrongRows (by assumption) (by omega) rfl rfl (Nat.le_of_ble_eq_true rfl) ?_
      have hvj := hv j hj w1
      obtain ⟨ac, D1, D2, s1, c1, b1, s2, c2, b2, W, f, _, hI, _⟩ := w3
      refine k_wrongRows (d := d) W hO.1.2.1 f.1 (fun k hk x hx => ?_) (fun k hk => ?_) ?_
      · have h1 := (hI k hk).1 x hx
        have h2 := sm_le vN (gL (xS X j)) hk
        have h3 : (wVs x).length ≤ vN (gL (xS X j) k) := by
          obtain ⟨u, v, e⟩ := List.append_of_mem hx
          rw [e, vN_app, vN_cons]
          omega
        exact ⟨h1.1, h1.2.1, by omega⟩
      · have h1 := vN_len (gL (xS X j) k) (fun x hx => ((hI k hk).1 x hx).1)
        have h2 := sm_le vN (gL (xS X j)) hk
        omega
      refine v_goto (q := 33) dX9_apart_28 (by decide) ?_
      refine v_iret dX9_apart_33 rfl ?_
      exact hQ
    · rw [if_neg (by rw [w1]; decide)] at hQ
      refine v_instNo (q := 16) dX9_apart_13 rfl CL4 cl_X9_41 (by decide) w2 ?_
      refine v_if_eq (t := 31) (q := 19) dX9_apart_16 (by decide) rfl (fun _ => ?_) (fun hc => absurd rfl hc)
      refine v_bipush (q := 33) (v := -2) dX9_apart_31 rfl (by decide) ?_
      refine v_iret dX9_apart_33 rfl ?_
      exact hQ
  · unfold aApart at hQ
    rw [onS_out hi] at hQ
    refine v_ast2 (q := 6) dX9_apart_5 rfl (by decide) rfl rfl ?_
    refine v_ald2 (q := 7) dX9_apart_6 rfl rfl ?_
    refine v_ifnonnull (r := none) (t := 12) (q := 10) dX9_apart_7 (by decide) rfl (fun a ha => by cases ha) (fun _ => ?_)
    refine v_iconst (q := 11) (v := -1) dX9_apart_10 rfl (by decide) ?_
    refine v_iret dX9_apart_11 rfl ?_
    exact hQ
theorem stv_cnt {j p US UZ : Nat} {S : Stg} {rows : List Rw} (hS : StV g h ow j p lg S rows US UZ) : (isW S = true ∧ hK h p = 8 ∧ fI h 23 p = gI S 23 ∧ fI h 24 p = nI (opS S) ∧ fI h 25 p = nI (heS S)) ∨ (isW S = false ∧ hK h p = 5 ∧ opS S = 0 ∧ heS S = 0) := by
  rcases hS.2 with ⟨w1, w2, hO, A, q1, q2, w3⟩ | ⟨w1, w2, _⟩
  · obtain ⟨ac, D1, D2, s1, c1, b1, s2, c2, b2, W, ⟨_, _, _, _, _, _, f23⟩, ⟨f24, f25, _⟩, _⟩ := w3
    refine Or.inl ⟨w1, w2, f23.trans hO.2.2.2.1.symm, ?_, ?_⟩
    · unfold opS
      rw [if_pos w1]
      exact f24
    · unfold heS
      rw [if_pos w1]
      exact f25
  · refine Or.inr ⟨w1, w2, ?_, ?_⟩
    · unfold opS
      rw [if_neg (by rw [w1]; decide)]
    · unfold heS
      rw [if_neg (by rw [w1]; decide)]
theorem w_out8 {w : Int32} (h0 : ¬ w = 0) (h1 : ¬ w = 1) (h2 : ¬ w = 2) (h3 : ¬ w = 3) (h4 : ¬ w = 4) (h5 : ¬ w = 5) (h6 : ¬ w = 6) (h7 : ¬ w = 7) : w.toInt < 0 ∨ 7 < w.toInt := by
  rw [fa_eq] at h0 h1 h2 h3 h4 h5 h6 h7
  have e0 : (0 : Int32).toInt = 0 := by decide
  have e1 : (1 : Int32).toInt = 1 := by decide
  have e2 : (2 : Int32).toInt = 2 := by decide
  have e3 : (3 : Int32).toInt = 3 := by decide
  have e4 : (4 : Int32).toInt = 4 := by decide
  have e5 : (5 : Int32).toInt = 5 := by decide
  have e6 : (6 : Int32).toInt = 6 := by decide
  have e7 : (7 : Int32).toInt = 7 := by decide
  omega
theorem k_about {s w : Int32} (hM : MV g h ow c lg SA ST WY po sp X us uz) (hQ : Q (some (.int (aAbout X s w))) h) : Call g mX9_about (d + 1) [.ref c, .int s, .int w] h Q := by
  refine Call.of [.ref c, .int s, .int w, zz, zz] (by decide) (Nat.le_of_ble_eq_true rfl) rfl ?_
  have a1 : hK h c = 9 := hM.1.1
  refine v_ald0 (q := 1) dX9_about_0 rfl rfl ?_
  refine v_ild1 (q := 2) dX9_about_1 rfl ?_
  refine v_callV (q := 5) (d' := d) (av := [.int s]) dX9_about_2 rfl ok_X9_stageAt CL8 ml_X9_51 im_X9_stageAt se_X9_stageAt (by assumption) (by omega) rfl rfl (Nat.le_of_ble_eq_true rfl) ?_
  refine mv_stageAt hM (fun j hij hj => ?_) (fun hi => ?_)
  · subst hij
    have hS := hM.st hj
    unfold aAbout at hQ
    rw [onS_in hM.2.2.2.2.1 hj] at hQ
    obtain ⟨f1, f2, f3, f4, f5⟩ := hS.1
    have hc := stv_cnt hS
    have hkk : hK h (sp j) = 8 ∨ hK h (sp j) = 5 := hc.elim (fun q => Or.inl q.2.1) (fun q => Or.inr q.2.1)
    refine v_ast3 (q := 6) dX9_about_5 rfl (by decide) rfl rfl ?_
    refine v_ald3 (q := 7) dX9_about_6 rfl rfl ?_
    refine v_ifnonnull (r := some (sp j)) (t := 12) (q := 10) dX9_about_7 (by decide) rfl (fun _ _ => ?_) (fun ha => by cases ha)
    refine v_ild2 (q := 13) dX9_about_12 rfl ?_
    unfold abt at hQ
    by_cases h0 : w = 0
    · subst h0
      rw [if_pos rfl] at hQ
      refine v_tableIn 0 (t := 60) dX9_about_13 (by decide) (by decide) rfl (by decide) ?_
      rcases hkk with kk | kk
      · refine v_ald3 (q := 61) dX9_about_60 rfl rfl ?_
        refine v_getI (q := 64) dX9_about_61 rfl gf_X9_160_7 (by assumption) ?_
        rw [f3]
        refine v_iret dX9_about_64 rfl ?_
        exact hQ
      · refine v_ald3 (q := 61) dX9_about_60 rfl rfl ?_
        refine v_getI (q := 64) dX9_about_61 rfl gf_X9_160_4 (by assumption) ?_
        rw [f3]
        refine v_iret dX9_about_64 rfl ?_
        exact hQ
    rw [if_neg h0] at hQ
    by_cases h1 : w = 1
    · subst h1
      rw [if_pos rfl] at hQ
      refine v_tableIn 1 (t := 65) dX9_about_13 (by decide) (by decide) rfl (by decide) ?_
      rcases hkk with kk | kk
      · refine v_ald3 (q := 66) dX9_about_65 rfl rfl ?_
        refine v_getI (q := 69) dX9_about_66 rfl gf_X9_163_7 (by assumption) ?_
        rw [f1]
        refine v_iret dX9_about_69 rfl ?_
        exact hQ
      · refine v_ald3 (q := 66) dX9_about_65 rfl rfl ?_
        refine v_getI (q := 69) dX9_about_66 rfl gf_X9_163_4 (by assumption) ?_
        rw [f1]
        refine v_iret dX9_about_69 rfl ?_
        exact hQ
    rw [if_neg h1] at hQ
    by_cases h2 : w = 2
    · subst h2
      rw [if_pos rfl] at hQ
      refine v_tableIn 2 (t := 70) dX9_about_13 (by decide) (by decide) rfl (by decide) ?_
      rcases hkk with kk | kk
      · refine v_ald3 (q := 71) dX9_about_70 rfl rfl ?_
        refine v_getI (q := 74) dX9_about_71 rfl gf_X9_63_7 (by assumption) ?_
        rw [f4]
        refine v_iret dX9_about_74 rfl ?_
        exact hQ
      · refine v_ald3 (q := 71) dX9_about_70 rfl rfl ?_
        refine v_getI (q := 74) dX9_about_71 rfl gf_X9_63_4 (by assumption) ?_
        rw [f4]
        refine v_iret dX9_about_74 rfl ?_
        exact hQ
    rw [if_neg h2] at hQ
    by_cases h3 : w = 3
    · subst h3
      rw [if_pos rfl] at hQ
      refine v_tableIn 3 (t := 75) dX9_about_13 (by decide) (by decide) rfl (by decide) ?_
      refine v_ald3 (q := 76) dX9_about_75 rfl rfl ?_
      rcases hc with ⟨w1, w2, w3, w4, w5⟩ | ⟨w1, w2, w3, w4⟩
      · rw [if_pos w1] at hQ
        refine v_inst (q := 79) dX9_about_76 rfl CL7 cl_X9_41 w2 ?_
        refine v_if_eq (t := 96) (q := 82) dX9_about_79 (by decide) rfl (fun hc => absurd hc (by decide)) (fun _ => ?_)
        refine v_ald3 (q := 83) dX9_about_82 rfl rfl ?_
        refine v_cast (q := 86) dX9_about_83 rfl CL7 cl_X9_41 w2 ?_
        refine v_ast4 (q := 88) dX9_about_86 rfl (by decide) rfl rfl ?_
        refine v_ald4 (q := 90) dX9_about_88 rfl rfl ?_
        refine v_getI (q := 93) dX9_about_90 rfl gf_X9_164_7 (by assumption) ?_
        rw [w3]
        refine v_goto (q := 97) dX9_about_93 (by decide) ?_
        refine v_iret dX9_about_97 rfl ?_
        exact hQ
      · rw [if_neg (by rw [w1]; decide)] at hQ
        refine v_instNo (q := 79) dX9_about_76 rfl CL4 cl_X9_41 (by decide) w2 ?_
        refine v_if_eq (t := 96) (q := 82) dX9_about_79 (by decide) rfl (fun _ => ?_) (fun hc => absurd rfl hc)
        refine v_iconst (q := 97) (v := 0) dX9_about_96 rfl (by decide) ?_
        refine v_iret dX9_about_97 rfl ?_
        exact hQ
    rw [if_neg h3] at hQ
    by_cases h4 : w = 4
    · subst h4
      rw [if_pos rfl] at hQ
      refine v_tableIn 4 (t := 98) dX9_about_13 (by decide) (by decide) rfl (by decide) ?_
      refine v_ald3 (q := 99) dX9_about_98 rfl rfl ?_
      rcases hc with ⟨w1, w2, w3, w4, w5⟩ | ⟨w1, w2, w3, w4⟩
      · refine v_inst (q := 102) dX9_about_99 rfl CL7 cl_X9_41 w2 ?_
        refine v_if_eq (t := 119) (q := 105) dX9_about_102 (by decide) rfl (fun hc => absurd hc (by decide)) (fun _ => ?_)
        refine v_ald3 (q := 106) dX9_about_105 rfl rfl ?_
        refine v_cast (q := 109) dX9_about_106 rfl CL7 cl_X9_41 w2 ?_
        refine v_ast4 (q := 111) dX9_about_109 rfl (by decide) rfl rfl ?_
        refine v_ald4 (q := 113) dX9_about_111 rfl rfl ?_
        refine v_getI (q := 116) dX9_about_113 rfl gf_X9_167_7 (by assumption) ?_
        rw [w4]
        refine v_goto (q := 120) dX9_about_116 (by decide) ?_
        refine v_iret dX9_about_120 rfl ?_
        exact hQ
      · rw [w3] at hQ
        refine v_instNo (q := 102) dX9_about_99 rfl CL4 cl_X9_41 (by decide) w2 ?_
        refine v_if_eq (t := 119) (q := 105) dX9_about_102 (by decide) rfl (fun _ => ?_) (fun hc => absurd rfl hc)
        refine v_iconst (q := 120) (v := 0) dX9_about_119 rfl (by decide) ?_
        refine v_iret dX9_about_120 rfl ?_
        exact hQ
    rw [if_neg h4] at hQ
    by_cases h5 : w = 5
    · subst h5
      rw [if_pos rfl] at hQ
      refine v_tableIn 5 (t := 121) dX9_about_13 (by decide) (by decide) rfl (by decide) ?_
      refine v_ald3 (q := 122) dX9_about_121 rfl rfl ?_
      rcases hc with ⟨w1, w2, w3, w4, w5⟩ | ⟨w1, w2, w3, w4⟩
      · refine v_inst (q := 125) dX9_about_122 rfl CL7 cl_X9_41 w2 ?_
        refine v_if_eq (t := 142) (q := 128) dX9_about_125 (by decide) rfl (fun hc => absurd hc (by decide)) (fun _ => ?_)
        refine v_ald3 (q := 129) dX9_about_128 rfl rfl ?_
        refine v_cast (q := 132) dX9_about_129 rfl CL7 cl_X9_41 w2 ?_
        refine v_ast4 (q := 134) dX9_about_132 rfl (by decide) rfl rfl ?_
        refine v_ald4 (q := 136) dX9_about_134 rfl rfl ?_
        refine v_getI (q := 139) dX9_about_136 rfl gf_X9_170_7 (by assumption) ?_
        rw [w5]
        refine v_goto (q := 143) dX9_about_139 (by decide) ?_
        refine v_iret dX9_about_143 rfl ?_
        exact hQ
      · rw [w4] at hQ
        refine v_instNo (q := 125) dX9_about_122 rfl CL4 cl_X9_41 (by decide) w2 ?_
        refine v_if_eq (t := 142) (q := 128) dX9_about_125 (by decide) rfl (fun _ => ?_) (fun hc => absurd rfl hc)
        refine v_iconst (q := 143) (v := 0) dX9_about_142 rfl (by decide) ?_
        refine v_iret dX9_about_143 rfl ?_
        exact hQ
    rw [if_neg h5] at hQ
    by_cases h6 : w = 6
    · subst h6
      rw [if_pos rfl] at hQ
      refine v_tableIn 6 (t := 144) dX9_about_13 (by decide) (by decide) rfl (by decide) ?_
      rcases hkk with kk | kk
      · refine v_ald3 (q := 145) dX9_about_144 rfl rfl ?_
        refine v_getI (q := 148) dX9_about_145 rfl gf_X9_70_7 (by assumption) ?_
        rw [f5]
        refine v_callS (q := 151) (d' := d) (av := [.int (nI (mskN (gF (xS X j)) 24))]) dX9_about_148 rfl ok_J6_bitCount_0f7a4 ml_X9_76 st_J6_bitCount_0f7a4 (by omega) rfl rfl (Nat.le_of_ble_eq_true rfl) ?_
        refine k_bitCount ?_
        rw [bitc_msk]
        refine v_iret dX9_about_151 rfl ?_
        exact hQ
      · refine v_ald3 (q := 145) dX9_about_144 rfl rfl ?_
        refine v_getI (q := 148) dX9_about_145 rfl gf_X9_70_4 (by assumption) ?_
        rw [f5]
        refine v_callS (q := 151) (d' := d) (av := [.int (nI (mskN (gF (xS X j)) 24))]) dX9_about_148 rfl ok_J6_bitCount_0f7a4 ml_X9_76 st_J6_bitCount_0f7a4 (by omega) rfl rfl (Nat.le_of_ble_eq_true rfl) ?_
        refine k_bitCount ?_
        rw [bitc_msk]
        refine v_iret dX9_about_151 rfl ?_
        exact hQ
    rw [if_neg h6] at hQ
    by_cases h7 : w = 7
    · subst h7
      rw [if_pos rfl] at hQ
      refine v_tableIn 7 (t := 152) dX9_about_13 (by decide) (by decide) rfl (by decide) ?_
      have fin : V g mX9_about (d + 1) 156 [.ref c, .int (nI j), .int 7, .ref (sp j), zz] [.int (gI (xS X j) 2)] h Q := by
        by_cases hz : gI (xS X j) 2 = 0
        · rw [if_pos hz] at hQ
          refine v_if_eq (t := 163) (q := 159) dX9_about_156 (by decide) rfl (fun _ => ?_) (fun hc => absurd hz hc)
          refine v_iconst (q := 164) (v := 0) dX9_about_163 rfl (by decide) ?_
          refine v_iret dX9_about_164 rfl ?_
          exact hQ
        · rw [if_neg hz] at hQ
          refine v_if_eq (t := 163) (q := 159) dX9_about_156 (by decide) rfl (fun hc => absurd hc hz) (fun _ => ?_)
          refine v_iconst (q := 160) (v := 1) dX9_about_159 rfl (by decide) ?_
          refine v_goto (q := 164) dX9_about_160 (by decide) ?_
          refine v_iret dX9_about_164 rfl ?_
          exact hQ
      rcases hkk with kk | kk
      · refine v_ald3 (q := 153) dX9_about_152 rfl rfl ?_
        refine v_getI (q := 156) dX9_about_153 rfl gf_X9_173_7 (by assumption) ?_
        rw [f2]
        exact fin
      · refine v_ald3 (q := 153) dX9_about_152 rfl rfl ?_
        refine v_getI (q := 156) dX9_about_153 rfl gf_X9_173_4 (by assumption) ?_
        rw [f2]
        exact fin
    rw [if_neg h7] at hQ
    refine v_tableOut (t := 165) dX9_about_13 (w_out8 h0 h1 h2 h3 h4 h5 h6 h7) (by decide) ?_
    refine v_iconst (q := 166) (v := -1) dX9_about_165 rfl (by decide) ?_
    refine v_iret dX9_about_166 rfl ?_
    exact hQ
  · unfold aAbout at hQ
    rw [onS_out hi] at hQ
    refine v_ast3 (q := 6) dX9_about_5 rfl (by decide) rfl rfl ?_
    refine v_ald3 (q := 7) dX9_about_6 rfl rfl ?_
    refine v_ifnonnull (r := none) (t := 12) (q := 10) dX9_about_7 (by decide) rfl (fun a ha => by cases ha) (fun _ => ?_)
    refine v_iconst (q := 11) (v := -1) dX9_about_10 rfl (by decide) ?_
    refine v_iret dX9_about_11 rfl ?_
    exact hQ
end L89
