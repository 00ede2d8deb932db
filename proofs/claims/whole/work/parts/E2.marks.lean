/-! E2: the model: marks -/
/-- a stage without windows changes -/
theorem MRw.plain {u u' : Mu} {X : Sg} {ws : List (Option Mw)} {s : Nat} {S' : Stg} {rows' : List Rw} (h : MRw u X ws) (hs : s < xM X) (hI : ∀ j, 19 ≤ j → j ≤ 28 → mI u' j = mI u j) (hL : mL u' 27 = mL u 27) (h88 : mF u' 88 = mF u 88) (h91 : mF u' 91 = mF u 91) (hw : isW (xS X s) = false) (hw' : isW S' = false) : MRw u' (xSet X s S' rows') ws := by
  have het : tot entS (xSet X s S' rows') = tot entS X := by
    have := tot_set entS X hs S' rows'
    have e1 : entS S' = 0 := if_neg (by rw [hw']; decide)
    have e2 : entS (xS X s) = 0 := if_neg (by rw [hw]; decide)
    omega
  obtain ⟨a, b, c, e, ⟨ne, f1, f2, f3, f4⟩, n⟩ := h.same hI hL h88 h91
  have hne : ∀ t, isW (xS X t) = true → t ≠ s := fun t ht q => by
    subst q
    rw [hw] at ht
    cases ht
  have hne' : ∀ t, isW (xS (xSet X s S' rows') t) = true → t ≠ s := fun t ht q => by
    subst q
    rw [xS_set, hw'] at ht
    cases ht
  refine ⟨a, fun k o hk => ?_, fun s' k' w es hx => ?_, fun s' hs' hW' k' hk' => ?_, ⟨ne, f1, f2, by rw [het]; exact f3, f4⟩, n⟩
  · match o, hk with
    | none, hk => exact b k none hk
    | some (s', ky, w, es), hk =>
      have q := hne s' (c s' ky w es (List.mem_of_getElem? hk)).2.1
      obtain ⟨w1, w2, w3, w4, w5, w6⟩ := b k _ hk
      exact ⟨w1, w2, w3, w4, by rw [xS_set_ne X _ _ q]; exact w5, w6⟩
  · have q := c s' k' w es hx
    rw [xS_set_ne X _ _ (hne s' q.2.1)]
    exact q
  · have q := hne' s' hW'
    rw [xS_set_ne X _ _ q] at hW' ⊢
    exact e s' hs' hW' k' hk'
def lsM (X : Sg) (s j : Nat) : Int32 := (wkL X s j).foldl (fun m f => mnI m (srcM X f)) 1000000
theorem ls_eq {X : Sg} {s j : Nat} (hne : wkL X s j ≠ []) (hb : ∀ f ∈ wkL X s j, (srcM X f).toInt ≤ 200000) : lsM X s j = lst X s j := by
  unfold lsM lst
  generalize wkL X s j = l at *
  match l, hne, hb with
  | f :: l, _, hb =>
    rw [List.foldl_cons, List.foldl_cons]
    have h1 := hb f List.mem_cons_self
    have e : ∀ a : Int32, 200000 ≤ a.toInt → mnI a (srcM X f) = srcM X f := fun a ha => by
      unfold mnI
      split
      · rfl
      · rename_i q
        rw [fa_lt] at q
        rw [fa_eq]
        omega
    rw [e _ (by decide), e _ (by decide)]
section LE2
variable {g : Gl} {d : Nat} {h : Hp} {m : Nat} {Q : Option Value → Hp → Prop} {X : Sg} {ws : List (Option Mw)} {s : Nat} {u : Mu}
theorem idl_s (X : Sg) (s j : Nat) : idl X s (j + 1) = if wkP X s j then 0 else idl X s j := by
  unfold idl
  rw [wkL_succ]
  by_cases hw : wkP X s j = true
  · rw [if_pos hw, if_pos hw]
    exact if_neg (by simp)
  · rw [if_neg hw, if_neg hw, List.append_nil]
theorem lsM_s (X : Sg) (s j : Nat) : lsM X s (j + 1) = if wkP X s j then mnI (lsM X s j) (srcM X j) else lsM X s j := by
  unfold lsM
  rw [wkL_succ]
  by_cases hw : wkP X s j = true
  · rw [if_pos hw, if_pos hw, List.foldl_append]
    rfl
  · rw [if_neg hw, if_neg hw, List.append_nil]
theorem ma_in (hm : MK h m) (hR : MRs u X) (hG : GO X) (hs : s < xM X) : ∀ (t j : Nat), j + t = 24 →
    V g mX10_marks d 140 [.ref m, .int (nI s), .int (idl X s 24), .int (lsM X s 24), zz, zz, zz] [] (mh h m u) Q →
    V g mX10_marks d 18 [.ref m, .int (nI s), .int (idl X s j), .int (lsM X s j), .int (nI j), zz, zz] [] (mh h m u) Q := by
  have h16 := hG.1
  intro t
  induction t with
  | zero =>
    intro j hj hQ
    have : j = 24 := by omega
    subst this
    refine v_ild4 (q := 20) dX10_marks_18 rfl ?_
    refine v_bipush (q := 22) (v := 24) dX10_marks_20 rfl (by decide) ?_
    refine v_icmp_ge (t := 140) (q := 25) dX10_marks_22 (by decide) rfl (fun _ => ?_) (fun z => absurd (Int32.le_refl _) z)
    refine v_fg (FG.k (FG.k (FG.k (FG.k (FG.z (FG.z (FG.z FG.nil))))))) ?_
    exact hQ
  | succ t ih =>
    intro j hj hQ
    have hi : (24 : Int32) * nI s + nI j = nI (24 * s + j) := by rw [show (24 : Int32) = nI 24 from rfl, pk_mul, nI_add]
    have rest : V g mX10_marks d 134 [.ref m, .int (nI s), .int (idl X s (j + 1)), .int (lsM X s (j + 1)), .int (nI j), zz, zz] [] (mh h m u) Q := by
      refine v_inc4 (q := 137) dX10_marks_134 rfl (by decide) rfl rfl ?_
      rw [inc1]
      refine v_goto (q := 18) dX10_marks_137 (by decide) ?_
      exact ih (j + 1) (by omega) hQ
    rw [idl_s, lsM_s] at rest
    refine v_ild4 (q := 20) dX10_marks_18 rfl ?_
    refine v_bipush (q := 22) (v := 24) dX10_marks_20 rfl (by decide) ?_
    refine v_icmp_ge (t := 140) (q := 25) dX10_marks_22 (by decide) rfl (fun z => absurd z (show ¬ nI 24 ≤ nI j from nI_ge (by omega) (by decide))) (fun _ => ?_)
    refine v_ald0 (q := 26) dX10_marks_25 rfl rfl ?_
    refine w_ga (q := 29) (j := 8) dX10_marks_26 rfl hm (by decide) gf_X10_32_9 ?_
    refine v_bipush (q := 31) (v := 24) dX10_marks_29 rfl (by decide) ?_
    refine v_ild1 (q := 32) dX10_marks_31 rfl ?_
    refine v_imul (q := 33) dX10_marks_32 rfl ?_
    refine v_ild4 (q := 35) dX10_marks_33 rfl ?_
    refine v_iadd (q := 36) dX10_marks_35 rfl ?_
    refine w_zald (q := 37) (n := 384) dX10_marks_36 rfl hm (by decide) rfl rfl hi (by omega) ?_
    rw [(hR.2.2.1 s hs).2.1 j (by omega)]
    by_cases hf : gF (xS X s) j = true
    · rw [if_pos hf]
      refine v_if_ne (t := 43) (q := 40) dX10_marks_37 (by decide) rfl (fun _ => ?_) (fun z => absurd z (by decide))
      have hfs := (hG.2.1 s hs j hf).1
      have main : ∀ I M : Int32, I = srcI X j → M = srcM X j → V g mX10_marks d 99 [.ref m, .int (nI s), .int (idl X s j), .int (lsM X s j), .int (nI j), .int I, zz] [.int M] (mh h m u) Q := fun I M eI eM => by
        subst eI eM
        refine v_ist6 (q := 101) dX10_marks_99 rfl (by decide) rfl ?_
        refine v_ild2 (q := 102) dX10_marks_101 rfl ?_
        by_cases h0 : srcI X j = 0
        · have hw : wkP X s j = true := by
            unfold wkP
            rw [hf, decide_eq_true h0]
            rfl
          rw [if_pos hw, if_pos hw] at rest
          have on : V g mX10_marks d 114 [.ref m, .int (nI s), .int (idl X s j), .int (lsM X s j), .int (nI j), .int (srcI X j), .int (srcM X j)] [] (mh h m u) Q := by
            refine v_iconst (q := 115) (v := 0) dX10_marks_114 rfl (by decide) ?_
            refine v_ist2 (q := 116) dX10_marks_115 rfl (by decide) rfl ?_
            refine v_ild5 (q := 118) dX10_marks_116 rfl ?_
            refine v_if_ne (t := 132) (q := 121) dX10_marks_118 (by decide) rfl (fun z => absurd h0 z) (fun _ => ?_)
            refine v_ild6 (q := 123) dX10_marks_121 rfl ?_
            refine v_ild3 (q := 124) dX10_marks_123 rfl ?_
            by_cases hl : srcM X j < lsM X s j
            · refine v_icmp_ge (t := 132) (q := 127) dX10_marks_124 (by decide) rfl (fun z => absurd hl (Int32.not_lt.mpr z)) (fun _ => ?_)
              refine v_ild6 (q := 129) dX10_marks_127 rfl ?_
              refine v_goto (q := 133) dX10_marks_129 (by decide) ?_
              refine v_ist3 (q := 134) dX10_marks_133 rfl (by decide) rfl ?_
              refine v_fg (FG.k (FG.k (FG.k (FG.k (FG.k (FG.z (FG.z FG.nil))))))) ?_
              rw [show mnI (lsM X s j) (srcM X j) = srcM X j from if_pos hl] at rest
              exact rest
            · refine v_icmp_ge (t := 132) (q := 127) dX10_marks_124 (by decide) rfl (fun _ => ?_) (fun z => absurd (Int32.not_lt.mp hl) z)
              refine v_ild3 (q := 133) dX10_marks_132 rfl ?_
              refine v_ist3 (q := 134) dX10_marks_133 rfl (by decide) rfl ?_
              refine v_fg (FG.k (FG.k (FG.k (FG.k (FG.k (FG.z (FG.z FG.nil))))))) ?_
              rw [show mnI (lsM X s j) (srcM X j) = lsM X s j from if_neg hl] at rest
              exact rest
          by_cases hi0 : idl X s j = 0
          · refine v_if_eq (t := 114) (q := 105) dX10_marks_102 (by decide) rfl (fun _ => on) (fun z => absurd hi0 z)
          · refine v_if_eq (t := 114) (q := 105) dX10_marks_102 (by decide) rfl (fun z => absurd z hi0) (fun _ => ?_)
            refine v_ild5 (q := 107) dX10_marks_105 rfl ?_
            refine v_if_eq (t := 114) (q := 110) dX10_marks_107 (by decide) rfl (fun _ => on) (fun z => absurd h0 z)
        · have hw : ¬ wkP X s j = true := by
            unfold wkP
            rw [decide_eq_false h0, Bool.and_false]
            decide
          rw [if_neg hw, if_neg hw] at rest
          have on : V g mX10_marks d 115 [.ref m, .int (nI s), .int (idl X s j), .int (lsM X s j), .int (nI j), .int (srcI X j), .int (srcM X j)] [.int (idl X s j)] (mh h m u) Q := by
            refine v_ist2 (q := 116) dX10_marks_115 rfl (by decide) rfl ?_
            refine v_ild5 (q := 118) dX10_marks_116 rfl ?_
            refine v_if_ne (t := 132) (q := 121) dX10_marks_118 (by decide) rfl (fun _ => ?_) (fun z => absurd z h0)
            refine v_ild3 (q := 133) dX10_marks_132 rfl ?_
            refine v_ist3 (q := 134) dX10_marks_133 rfl (by decide) rfl ?_
            refine v_fg (FG.k (FG.k (FG.k (FG.k (FG.k (FG.z (FG.z FG.nil))))))) ?_
            exact rest
          by_cases hi0 : idl X s j = 0
          · refine v_if_eq (t := 114) (q := 105) dX10_marks_102 (by decide) rfl (fun _ => ?_) (fun z => absurd hi0 z)
            refine v_iconst (q := 115) (v := 0) dX10_marks_114 rfl (by decide) ?_
            rw [hi0] at on ⊢
            exact on
          · have hi1 : idl X s j = 1 := by
              unfold idl at hi0 ⊢
              split
              · rfl
              · rename_i q
                exact absurd (if_neg q) hi0
            refine v_if_eq (t := 114) (q := 105) dX10_marks_102 (by decide) rfl (fun z => absurd z hi0) (fun _ => ?_)
            refine v_ild5 (q := 107) dX10_marks_105 rfl ?_
            refine v_if_eq (t := 114) (q := 110) dX10_marks_107 (by decide) rfl (fun z => absurd z h0) (fun _ => ?_)
            refine v_iconst (q := 111) (v := 1) dX10_marks_110 rfl (by decide) ?_
            refine v_goto (q := 115) dX10_marks_111 (by decide) ?_
            rw [hi1] at on ⊢
            exact on
      refine v_ild4 (q := 45) dX10_marks_43 rfl ?_
      refine v_bipush (q := 47) (v := 8) dX10_marks_45 rfl (by decide) ?_
      by_cases h8 : j < 8
      · have r := hR.2.1 j h8
        refine v_icmp_ge (t := 60) (q := 50) dX10_marks_47 (by decide) rfl (fun z => absurd z (show ¬ nI 8 ≤ nI j from nI_ge h8 (by decide))) (fun _ => ?_)
        refine v_ald0 (q := 51) dX10_marks_50 rfl rfl ?_
        refine w_ga (q := 54) (j := 2) dX10_marks_51 rfl hm (by decide) gf_X10_13_9 ?_
        refine v_ild4 (q := 56) dX10_marks_54 rfl ?_
        refine w_zald (q := 57) (n := 8) dX10_marks_56 rfl hm (by decide) rfl rfl rfl (by omega) ?_
        refine v_goto (q := 70) dX10_marks_57 (by decide) ?_
        refine v_ist5 (q := 72) dX10_marks_70 rfl (by decide) rfl ?_
        refine v_ild4 (q := 74) dX10_marks_72 rfl ?_
        refine v_bipush (q := 76) (v := 8) dX10_marks_74 rfl (by decide) ?_
        refine v_icmp_ge (t := 89) (q := 79) dX10_marks_76 (by decide) rfl (fun z => absurd z (show ¬ nI 8 ≤ nI j from nI_ge h8 (by decide))) (fun _ => ?_)
        refine v_ald0 (q := 80) dX10_marks_79 rfl rfl ?_
        refine w_ga (q := 83) (j := 1) dX10_marks_80 rfl hm (by decide) gf_X10_9_9 ?_
        refine v_ild4 (q := 85) dX10_marks_83 rfl ?_
        refine w_iald (q := 86) (n := 8) dX10_marks_85 rfl hm (by decide) rfl rfl rfl (by omega) ?_
        refine v_goto (q := 99) dX10_marks_86 (by decide) ?_
        refine main _ _ (r.2.trans ?_) (r.1.trans ?_)
        · unfold srcI
          rw [if_pos h8]
        · unfold srcM
          rw [if_pos h8]
      · have e8 : nI j - 8 = nI (j - 8) := nI_sub (a := j) (c := 8) (by omega)
        have r := (hR.2.2.1 (j - 8) (by omega)).1
        refine v_icmp_ge (t := 60) (q := 50) dX10_marks_47 (by decide) rfl (fun _ => ?_) (fun z => absurd (show nI 8 ≤ nI j from nI_le (by omega) (by omega)) z)
        refine v_ald0 (q := 61) dX10_marks_60 rfl rfl ?_
        refine w_ga (q := 64) (j := 7) dX10_marks_61 rfl hm (by decide) gf_X10_29_9 ?_
        refine v_ild4 (q := 66) dX10_marks_64 rfl ?_
        refine v_bipush (q := 68) (v := 8) dX10_marks_66 rfl (by decide) ?_
        refine v_isub (q := 69) dX10_marks_68 rfl ?_
        refine w_zald (q := 70) (n := 16) dX10_marks_69 rfl hm (by decide) rfl rfl e8 (by omega) ?_
        refine v_ist5 (q := 72) dX10_marks_70 rfl (by decide) rfl ?_
        refine v_ild4 (q := 74) dX10_marks_72 rfl ?_
        refine v_bipush (q := 76) (v := 8) dX10_marks_74 rfl (by decide) ?_
        refine v_icmp_ge (t := 89) (q := 79) dX10_marks_76 (by decide) rfl (fun _ => ?_) (fun z => absurd (show nI 8 ≤ nI j from nI_le (by omega) (by omega)) z)
        refine v_ald0 (q := 90) dX10_marks_89 rfl rfl ?_
        refine w_ga (q := 93) (j := 6) dX10_marks_90 rfl hm (by decide) gf_X10_26_9 ?_
        refine v_ild4 (q := 95) dX10_marks_93 rfl ?_
        refine v_bipush (q := 97) (v := 8) dX10_marks_95 rfl (by decide) ?_
        refine v_isub (q := 98) dX10_marks_97 rfl ?_
        refine w_iald (q := 99) (n := 16) dX10_marks_98 rfl hm (by decide) rfl rfl e8 (by omega) ?_
        refine main _ _ (r.2.2.2.2.trans ?_) (r.2.2.2.1.trans ?_)
        · unfold srcI
          rw [if_neg h8]
        · unfold srcM
          rw [if_neg h8]
    · rw [if_neg hf]
      refine v_if_ne (t := 43) (q := 40) dX10_marks_37 (by decide) rfl (fun z => absurd rfl z) (fun _ => ?_)
      have hw : ¬ wkP X s j = true := by
        unfold wkP
        rw [Bool.eq_false_iff.mpr hf, Bool.false_and]
        decide
      rw [if_neg hw, if_neg hw] at rest
      refine v_goto (q := 134) dX10_marks_40 (by decide) ?_
      exact rest
theorem mr_set2 (hR : MR u X ws) (hs : s < xM X) (x : Int32) : MR (sI u 7 s x) (xSet X s (sgI (xS X s) 2 x) (xR X)) ws := by
  obtain ⟨⟨a1, a2, a3, a4, a5⟩, b, c, d', e⟩ := hR.1.2.2.1 s hs
  refine ⟨hR.1.set ⟨rfl, rfl⟩ (fun j h1 h2 h3 i hi => ?_) (fun _ _ _ _ => rfl) (fun _ _ => rfl) rfl rfl hs ⟨⟨a1, a2, a3, a4, mI_at _ _ _⟩, b, c, d', e⟩, hR.2.1.same (fun j h1 h2 => mI_nr _ (by omega)) rfl rfl, hR.2.2.cfg hs (fun j h1 h2 => mI_nr _ (by omega)) rfl rfl rfl rfl ⟨rfl, rfl⟩ rfl⟩
  by_cases e7 : j = 7
  · subst e7
    exact mI_ni _ hi
  · rw [mI_nr _ e7]
theorem mr_set1 (hR : MR u X ws) (hs : s < xM X) (hw : isW (xS X s) = false) (x : Int32) : MR (sI u 6 s x) (xSet X s (sgI (xS X s) 1 x) (xR X)) ws := by
  obtain ⟨⟨a1, a2, a3, a4, a5⟩, b, c, d', e⟩ := hR.1.2.2.1 s hs
  refine ⟨hR.1.set ⟨rfl, rfl⟩ (fun j h1 h2 h3 i hi => ?_) (fun _ _ _ _ => rfl) (fun _ _ => rfl) rfl rfl hs ⟨⟨a1, a2, a3, mI_at _ _ _, a5⟩, b, c, d', e⟩, hR.2.1.same (fun j h1 h2 => mI_nr _ (by omega)) rfl rfl, hR.2.2.plain hs (fun j h1 h2 => mI_nr _ (by omega)) rfl rfl rfl hw hw⟩
  by_cases e7 : j = 6
  · subst e7
    exact mI_ni _ hi
  · rw [mI_nr _ e7]
theorem mr_len (hR : MRw u X ws) (hS : SI X) {n : Nat} (hC : tot camS X ≤ n) : ∀ s ky w es, some (s, ky, w, es) ∈ ws → es.length ≤ n := fun s ky w es hx => by
  obtain ⟨q1, q2, q3⟩ := hR.2.2.1 s ky w es hx
  obtain ⟨k, hk⟩ := List.mem_iff_getElem?.mp hx
  have h1 := mw_len (hR.2.1 k _ hk)
  have h2 := ((hS.one q1).1 q2).2.2.2 ky q3 w (mw_lane hR hx)
  have h3 := tot_le camS X q1
  omega
theorem ma_out (hm : MK h m) : ∀ (t s : Nat) (u : Mu) (X : Sg) (ws : List (Option Mw)), s + t = xM X → MR u X ws → GO X → BI X → SI X → tot camS X ≤ 12000 → (∀ u' ws', MR u' ((List.range' s t).foldl settle1 X) ws' → Q none (mh h m u')) →
    V g mX10_marks (d + 5) 2 [.ref m, .int (nI s), zz, zz, zz, zz, zz] [] (mh h m u) Q := by
  intro t
  induction t with
  | zero =>
    intro s u X ws hst hR hG hB hS hC hQ
    have : s = xM X := by omega
    subst this
    refine v_ild1 (q := 3) dX10_marks_2 rfl ?_
    refine v_ald0 (q := 4) dX10_marks_3 rfl rfl ?_
    refine w_gi (q := 7) dX10_marks_4 rfl hm gf_X10_122_9 ?_
    rw [hR.1.1.1]
    refine v_icmp_ge (t := 197) (q := 10) dX10_marks_7 (by decide) rfl (fun _ => ?_) (fun z => absurd (Int32.le_refl _) z)
    refine v_vret dX10_marks_197 rfl ?_
    exact hQ u ws hR
  | succ t ih =>
    intro s u X ws hst hR hG hB hS hC hQ
    have h16 := hG.1
    have hs : s < xM X := by omega
    rw [List.range'_succ, List.foldl_cons] at hQ
    obtain ⟨n1, n2, n3, n4⟩ := SI.stl hG hB hS hs
    have rest : ∀ (u1 : Mu) (ws1 : List (Option Mw)) (v2 v3 v4 : Value), MR u1 (settle1 X s) ws1 → V g mX10_marks (d + 5) 191 [.ref m, .int (nI s), v2, v3, v4, zz, zz] [] (mh h m u1) Q := fun u1 ws1 v2 v3 v4 hR1 => by
      refine v_inc1 (q := 194) dX10_marks_191 rfl (by decide) rfl rfl ?_
      rw [inc1]
      refine v_goto (q := 2) dX10_marks_194 (by decide) ?_
      refine v_fg (FG.k (FG.k (FG.z (FG.z (FG.z (FG.z (FG.z FG.nil))))))) ?_
      exact ih (s + 1) u1 _ ws1 (by rw [n4.2.2.2.2.1]; omega) hR1 (hG.same n4.2.2.2.2) n2 n1 (by omega) hQ
    refine v_ild1 (q := 3) dX10_marks_2 rfl ?_
    refine v_ald0 (q := 4) dX10_marks_3 rfl rfl ?_
    refine w_gi (q := 7) dX10_marks_4 rfl hm gf_X10_122_9 ?_
    rw [hR.1.1.1]
    refine v_icmp_ge (t := 197) (q := 10) dX10_marks_7 (by decide) rfl (fun z => absurd z (nI_ge hs (by omega))) (fun _ => ?_)
    refine v_iconst (q := 11) (v := 1) dX10_marks_10 rfl (by decide) ?_
    refine v_ist2 (q := 12) dX10_marks_11 rfl (by decide) rfl ?_
    refine v_ldc (q := 14) dX10_marks_12 rfl kc_X10_211 ?_
    refine v_ist3 (q := 15) dX10_marks_14 rfl (by decide) rfl ?_
    refine v_iconst (q := 16) (v := 0) dX10_marks_15 rfl (by decide) ?_
    refine v_ist4 (q := 18) dX10_marks_16 rfl (by decide) rfl ?_
    refine ma_in (d := d + 5) hm hR.1 hG hs 24 0 (Nat.zero_add _) ?_
    have ew : wake X s = wkL X s 24 := rfl
    have el : leastM X s = lst X s 24 := rfl
    have hnar : narrow .boolean (.int (idl X s 24)) = .int (idl X s 24) := by
      unfold idl
      split <;> rfl
    have hR1 := mr_set2 hR hs (idl X s 24)
    refine v_ald0 (q := 141) dX10_marks_140 rfl rfl ?_
    refine w_ga (q := 144) (j := 7) dX10_marks_141 rfl hm (by decide) gf_X10_29_9 ?_
    refine v_ild1 (q := 145) dX10_marks_144 rfl ?_
    refine v_ild2 (q := 146) dX10_marks_145 rfl ?_
    refine w_zast (q := 147) (n := 16) dX10_marks_146 rfl hm (by decide) rfl rfl rfl (by omega) hnar ?_
    generalize sI u 7 s (idl X s 24) = u1 at *
    refine v_ild2 (q := 148) dX10_marks_147 rfl ?_
    unfold settle1 at rest n1 n2 n3 n4
    rw [ew, el] at rest
    by_cases hw : wkL X s 24 = []
    · have ei : idl X s 24 = 1 := if_pos hw
      rw [ei] at hR1
      rw [if_pos hw] at rest
      rw [ei]
      refine v_if_ne (t := 191) (q := 151) dX10_marks_148 (by decide) rfl (fun _ => rest u1 ws _ _ _ hR1) (fun z => absurd z (by decide))
    have ei : idl X s 24 = 0 := if_neg hw
    rw [ei] at hR1
    rw [if_neg hw] at rest
    rw [ei]
    have hls : lsM X s 24 = lst X s 24 := ls_eq hw (fun f hf => by
      have hp := (List.mem_filter.mp hf).2
      have hgf : gF (xS X s) f = true := by
        unfold wkP at hp
        exact (Bool.and_eq_true _ _ ▸ hp).1
      have := (hG.2.1 s hs f hgf).1
      unfold srcM
      split
      · exact (hS.2.2 f (by assumption)).2
      · exact (hS.one (show f - 8 < xM X by omega)).2.2.2)
    rw [hls]
    refine v_if_ne (t := 191) (q := 151) dX10_marks_148 (by decide) rfl (fun z => absurd rfl z) (fun _ => ?_)
    have rs1 := hR1.1.2.2.1 s hs
    rw [xS_set] at rs1
    have r6 : mI u1 6 s = gI (xS X s) 1 := rs1.1.2.2.2.1
    refine v_ild3 (q := 152) dX10_marks_151 rfl ?_
    refine v_ald0 (q := 153) dX10_marks_152 rfl rfl ?_
    refine w_ga (q := 156) (j := 6) dX10_marks_153 rfl hm (by decide) gf_X10_26_9 ?_
    refine v_ild1 (q := 157) dX10_marks_156 rfl ?_
    refine w_iald (q := 158) (n := 16) dX10_marks_157 rfl hm (by decide) rfl rfl rfl (by omega) ?_
    rw [r6]
    by_cases hle : lst X s 24 ≤ gI (xS X s) 1
    · rw [if_neg (fun q => absurd hle (Int32.not_le.mpr q))] at rest
      refine v_icmp_le (t := 191) (q := 161) dX10_marks_158 (by decide) rfl (fun _ => rest u1 ws _ _ _ hR1) (fun z => absurd hle z)
    have hlt : gI (xS X s) 1 < lst X s 24 := Int32.not_le.mp hle
    rw [if_pos hlt] at rest
    refine v_icmp_le (t := 191) (q := 161) dX10_marks_158 (by decide) rfl (fun z => absurd z hle) (fun _ => ?_)
    have hl2 := lst_le X s 24
    generalize lst X s 24 = l at *
    have hlt2 := hlt
    rw [fa_lt] at hlt2
    refine v_ald0 (q := 162) dX10_marks_161 rfl rfl ?_
    refine w_ga (q := 165) (j := 6) dX10_marks_162 rfl hm (by decide) gf_X10_26_9 ?_
    refine v_ild1 (q := 166) dX10_marks_165 rfl ?_
    refine w_iald (q := 167) (n := 16) dX10_marks_166 rfl hm (by decide) rfl rfl rfl (by omega) ?_
    rw [r6]
    refine v_ist4 (q := 169) dX10_marks_167 rfl (by decide) rfl ?_
    refine v_ald0 (q := 170) dX10_marks_169 rfl rfl ?_
    refine w_ga (q := 173) (j := 6) dX10_marks_170 rfl hm (by decide) gf_X10_26_9 ?_
    refine v_ild1 (q := 174) dX10_marks_173 rfl ?_
    refine v_ild3 (q := 175) dX10_marks_174 rfl ?_
    refine w_iast (q := 176) (n := 16) dX10_marks_175 rfl hm (by decide) rfl rfl rfl (by omega) ?_
    have hB1 := hB.set2 0 hs
    have hS1 := hS.set2 hs 0
    have eg : xS (xSet X s (sgI (xS X s) 2 0) (xR X)) s = sgI (xS X s) 2 0 := xS_set _ _ _ _
    have hRs : MRs (sI u1 6 s l) (xSet X s (sgI (sgI (xS X s) 2 0) 1 l) (xR X)) := by
      obtain ⟨⟨a1, a2, a3, a4, a5⟩, b, c, d', e⟩ := rs1
      have q := hR1.1.set (u' := sI u1 6 s l) (S' := sgI (sgI (xS X s) 2 0) 1 l) (rows' := xR X) ⟨rfl, rfl⟩ (fun j h1 h2 h3 i hi => by
        by_cases e7 : j = 6
        · subst e7
          exact mI_ni _ hi
        · rw [mI_nr _ e7]) (fun _ _ _ _ => rfl) (fun _ _ => rfl) rfl rfl hs ⟨⟨a1, a2, a3, mI_at _ _ _, a5⟩, b, c, d', e⟩
      rw [xSet_set] at q
      exact q
    have hsY : s < xM (xSet X s (sgI (sgI (xS X s) 2 0) 1 l) (xR X)) := hs
    refine v_ald0 (q := 177) dX10_marks_176 rfl rfl ?_
    refine v_ild1 (q := 178) dX10_marks_177 rfl ?_
    refine v_callV (q := 181) (d' := d + 4) (av := [.int (nI s)]) dX10_marks_178 rfl ok_X10_isWindowed CL9 ml_X10_130 im_X10_isWindowed se_X10_isWindowed hm.1 (by omega) rfl rfl (Nat.le_of_ble_eq_true rfl) ?_
    refine q_isW hm hRs h16 hsY ?_
    rw [xS_set]
    show V g mX10_marks (d + 5) 181 _ [.int (if isW (xS X s) then 1 else 0)] _ Q
    by_cases hw' : isW (xS X s) = true
    · rw [if_pos hw']
      refine v_if_eq (t := 191) (q := 184) dX10_marks_181 (by decide) rfl (fun z => absurd z (by decide)) (fun _ => ?_)
      have hE1 := hB1.1.ent
      have hP1 := hB1.1.2
      have hps := tot_le potS (xSet X s (sgI (xS X s) 2 0) (xR X)) (s := s) hs
      have ep : potS (xS (xSet X s (sgI (xS X s) 2 0) (xR X)) s) = sm cR (gL (xS X s)) + 2 * sm (cD (gI (xS X s) 1)) (gL (xS X s)) := by
        rw [eg]
        exact if_pos hw'
      have ex : (xR (xSet X s (sgI (xS X s) 2 0) (xR X))).length = (xR X).length := rfl
      have hC1 := hB1.2
      have hz : gI (xS (xSet X s (sgI (xS X s) 2 0) (xR X)) s) 1 = gI (xS X s) 1 := by
        rw [eg]
        rfl
      refine v_ald0 (q := 185) dX10_marks_184 rfl rfl ?_
      refine v_ild1 (q := 186) dX10_marks_185 rfl ?_
      refine v_ild4 (q := 188) dX10_marks_186 rfl ?_
      refine v_callV (q := 191) (d' := d + 4) (av := [.int (nI s), .int (gI (xS X s) 1)]) dX10_marks_188 rfl ok_X10_goesUp CL9 ml_X10_212 im_X10_goesUp se_X10_goesUp hm.1 (by omega) rfl rfl (Nat.le_of_ble_eq_true rfl) ?_
      rw [← hz]
      refine q_goesUp (d := d) (X := xSet X s (sgI (xS X s) 2 0) (xR X)) (ws := ws) (u := u1) (to := l) hm hR1 hS1 h16 hs (by rw [eg]; exact hw') (by omega) (mr_len hR1.2.2 hS1 (by omega)) (by
        rw [eg]
        show (xR X).length + 2 * sm (cD (gI (xS X s) 1)) (gL (xS X s)) + 2 < 200000
        omega) (by
        rw [eg]
        show (gI (xS X s) 1).toInt ≤ _
        omega) hl2 (fun j hj => mI_nr _ hj) rfl rfl rfl (fun v' ws' hR' => rest v' ws' _ _ _ hR')
    · rw [if_neg hw']
      refine v_if_eq (t := 191) (q := 184) dX10_marks_181 (by decide) rfl (fun _ => ?_) (fun z => absurd rfl z)
      have hR2 := mr_set1 hR1 hs (by rw [eg]; exact Bool.eq_false_iff.mpr hw') l
      rw [eg] at hR2
      refine rest _ ws _ _ _ ?_
      unfold riseG
      rw [eg, if_neg (show ¬ isW (sgI (xS X s) 2 0) = true from hw')]
      exact hR2
theorem q_marks (hm : MK h m) (hR : MR u X ws) (hG : GO X) (hB : BI X) (hS : SI X) (hC : tot camS X ≤ 12000) (hQ : ∀ u' ws', MR u' (settleS X) ws' → Q none (mh h m u')) : Call g mX10_marks (d + 5) [.ref m] (mh h m u) Q := by
  refine Call.of [.ref m, zz, zz, zz, zz, zz, zz] (by decide) (Nat.le_of_ble_eq_true rfl) rfl ?_
  refine v_iconst (q := 1) (v := 0) dX10_marks_0 rfl (by decide) ?_
  refine v_ist1 (q := 2) dX10_marks_1 rfl (by decide) rfl ?_
  refine ma_out (d := d) hm (xM X) 0 u X ws (Nat.zero_add _) hR hG hB hS hC (fun u' ws' hR' => hQ u' ws' ?_)
  unfold settleS
  rw [List.range_eq_range']
  exact hR'
end LE2
