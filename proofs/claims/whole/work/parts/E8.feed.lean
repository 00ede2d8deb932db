/-! E8: the model: feed -/
theorem fold_sg : ∀ (l : List Nat) (X : Sg), (∀ s ∈ l, s < xM X) → GO X → BI X → SI X → SG X (l.foldl settle1 X) := by
  intro l
  induction l with
  | nil => exact fun X _ _ _ _ => SG.rf X
  | cons s l ih =>
    intro X hl hG hB hS
    obtain ⟨a, b, c, e⟩ := SI.stl hG hB hS (hl s List.mem_cons_self)
    rw [List.foldl_cons]
    exact e.2.2.2.2.tr (ih _ (fun t ht => by rw [e.2.2.2.2.1]; exact hl t (List.mem_cons_of_mem _ ht)) (hG.same e.2.2.2.2) b a)
theorem settle_sg {X : Sg} (hG : GO X) (hB : BI X) (hS : SI X) : SG X (settleS X) := fold_sg (List.range (xM X)) X (fun s hs => List.mem_range.mp hs) hG hB hS
theorem cnt_new {fd : Nat → Bool} {f : Nat} (hf : f < 24) (h0 : fd f = false) : cntB (fun i => if i = f then true else fd i) 24 = cntB fd 24 + 1 := by
  have h := fb_sm_upd (fun i => if fd i then 1 else 0) 1 hf
  have e : (fun i => if (if i = f then true else fd i) = true then 1 else 0) = fun i => if i = f then 1 else (if fd i = true then 1 else 0) := funext fun i => by
    by_cases hi : i = f
    · rw [if_pos hi, if_pos hi, if_pos rfl]
    · rw [if_neg hi, if_neg hi]
  have h' : fb_sm (fun i => if i = f then 1 else (if fd i = true then 1 else 0)) 24 + (if fd f = true then 1 else 0) = fb_sm (fun i => if fd i = true then 1 else 0) 24 + 1 := h
  rw [h0] at h'
  unfold cntB
  rw [e]
  exact h'
section LE8
variable {g : Gl} {d : Nat} {h : Hp} {m : Nat} {Q : Option Value → Hp → Prop} {X : Sg} {ws : List (Option Mw)} {u : Mu} {j i : Nat}
theorem SI.feed (hS : SI X) (hj : j < xM X) : SI (xSet X j (stFd (xS X j) i) (xR X)) := hS.set ⟨[], (List.append_nil _).symm⟩ hS.2.1 ((hS.one hj).more (fun _ _ => rfl) rfl (fun hw => ⟨((hS.one hj).1 hw).2.2.1, Nat.le_refl _⟩))
theorem fd_eq : (fun s f => gF (xS (xSet X j (stFd (xS X j) i) (xR X)) s) f) = fdN X j i := funext fun s => funext fun f => by
  unfold fdN
  by_cases e : s = j
  · subst e
    rw [xS_set]
    show (if f = i then true else gF (xS X s) f) = _
    by_cases e2 : f = i
    · rw [if_pos e2, if_pos ⟨rfl, e2⟩]
    · rw [if_neg e2, if_neg (fun z => e2 z.2)]
  · rw [xS_set_ne X _ _ e, if_neg (fun z => e z.1)]
theorem idx24 {s t f f' : Nat} (hf : f < 24) (hf' : f' < 24) : 24 * s + f = 24 * t + f' ↔ s = t ∧ f = f' := by omega
/-- the model's feeds once stage j is fed by i -/
theorem fd_row (hR : MRs u X) (hi : i < 24) (s : Nat) (hs : s < xM X) (f : Nat) (hf : f < 24) : mI (sI u 8 (24 * j + i) 1) 8 (24 * s + f) = if fdN X j i s f then 1 else 0 := by
  by_cases e : s = j ∧ f = i
  · obtain ⟨rfl, rfl⟩ := e
    rw [mI_at, fdN_at]
    rfl
  · rw [mI_ni _ (fun z => e ((idx24 hf hi).mp z)), fdN_ne e]
    exact (hR.2.2.1 s hs).2.1 f hf
theorem mr_feed {v : Mu} (hR : MR u X ws) (hv : Scr (sI u 8 (24 * j + i) 1) v) (hj : j < xM X) (hi : i < 24) (h0 : gF (xS X j) i = false) : MR (sI v 9 j (nI (cntB (gF (xS X j)) 24 + 1))) (xSet X j (stFd (xS X j) i) (xR X)) ws := by
  obtain ⟨⟨x1, x2, x3, x4, x5⟩, x6, x7, x8, y⟩ := hR.1.2.2.1 j hj
  have q : ∀ r, r ≠ 9 → r ≠ 8 → r ≠ 36 → mI (sI v 9 j (nI (cntB (gF (xS X j)) 24 + 1))) r = mI u r := fun r h1 h2 h3 => by
    rw [mI_nr _ h1, hv.1 r h3, mI_nr _ h2]
  have q8 : mI (sI v 9 j (nI (cntB (gF (xS X j)) 24 + 1))) 8 = mI (sI u 8 (24 * j + i) 1) 8 := by
    rw [mI_nr _ (by decide), hv.1 8 (by decide)]
  have qL : ∀ r, r ≠ 35 → mL (sI v 9 j (nI (cntB (gF (xS X j)) 24 + 1))) r = mL u r := fun r hr => hv.2.1 r hr
  have qF : mF (sI v 9 j (nI (cntB (gF (xS X j)) 24 + 1))) = mF u := hv.2.2
  refine ⟨hR.1.set ⟨q 1 (by decide) (by decide) (by decide), q 2 (by decide) (by decide) (by decide)⟩ (fun r h1 h2 h3 t ht => ?_) (fun t ht f hf => ?_) (fun t _ => by rw [qL 18 (by decide)]) (by rw [qF]) (by rw [qF]) hj ?_, hR.2.1.same (fun r h1 h2 => q r (by omega) (by omega) (by omega)) (qL 34 (by decide)) (by rw [qF]), hR.2.2.cfg hj (fun r h1 h2 => q r (by omega) (by omega) (by omega)) (qL 27 (by decide)) (by rw [qF]) (by rw [qF]) rfl ⟨rfl, rfl⟩ rfl⟩
  · by_cases e9 : r = 9
    · subst e9
      rw [mI_ni _ ht, hv.1 9 (by decide), mI_nr _ (by decide)]
    · rw [q r e9 h3 (by omega)]
  · rw [q8, mI_ni _ (fun z => ht ((idx24 hf hi).mp z).1)]
  · have z : ∀ r t, r ≠ 9 → r ≠ 8 → r ≠ 36 → mI (sI v 9 j (nI (cntB (gF (xS X j)) 24 + 1))) r t = mI u r t := fun r t h1 h2 h3 => by rw [q r h1 h2 h3]
    refine ⟨⟨(z 3 j (by decide) (by decide) (by decide)).trans x1, (z 4 j (by decide) (by decide) (by decide)).trans x2, (z 5 j (by decide) (by decide) (by decide)).trans x3, (z 6 j (by decide) (by decide) (by decide)).trans x4, (z 7 j (by decide) (by decide) (by decide)).trans x5⟩, fun f hf => ?_, ?_, ⟨(z 10 j (by decide) (by decide) (by decide)).trans x8.1, (z 11 j (by decide) (by decide) (by decide)).trans x8.2.1, (z 12 j (by decide) (by decide) (by decide)).trans x8.2.2.1, (z 13 j (by decide) (by decide) (by decide)).trans x8.2.2.2.1, (z 14 j (by decide) (by decide) (by decide)).trans x8.2.2.2.2⟩, (z 15 j (by decide) (by decide) (by decide)).trans y.1, (z 16 j (by decide) (by decide) (by decide)).trans y.2.1, (z 17 j (by decide) (by decide) (by decide)).trans y.2.2.1, by rw [qL 18 (by decide)]; exact y.2.2.2⟩
    · rw [q8, fd_row hR.1 hi j hj f hf, ← fd_eq]
      show (if gF (xS (xSet X j (stFd (xS X j) i) (xR X)) j) f = true then _ else _) = _
      rw [xS_set]
    · rw [mI_at]
      show _ = nI (cntB (fun t => if t = i then true else gF (xS X j) t) 24)
      rw [cnt_new hi h0]
theorem q_feed {s f : Int32} (hm : MK h m) (hR : MR u X ws) (hI : MI X) (hS : SI X) (hQ : MoQ h m Q (doFeed X s f).1 (doFeed X s f).2) : Call g mX10_feed (d + 6) [.ref m, .int s, .int f] (mh h m u) Q := by
  have h16 := hI.1.1
  refine Call.of [.ref m, .int s, .int f] (by decide) (Nat.le_of_ble_eq_true rfl) rfl ?_
  have no : ¬ feedB X s f → V g mX10_feed (d + 6) 29 [.ref m, .int s, .int f] [] (mh h m u) Q := fun hn => by
    have e : doFeed X s f = (-1, X) := if_neg hn
    rw [e] at hQ
    refine v_iconst (q := 30) (v := -1) dX10_feed_29 rfl (by decide) ?_
    refine v_iret dX10_feed_30 rfl ?_
    exact hQ u ws hR hS
  refine v_ald0 (q := 1) dX10_feed_0 rfl rfl ?_
  refine v_ild1 (q := 2) dX10_feed_1 rfl ?_
  refine v_callV (q := 5) (d' := d + 5) (av := [.int s]) dX10_feed_2 rfl ok_X10_is CL9 ml_X10_134 im_X10_is se_X10_is hm.1 (by omega) rfl rfl (Nat.le_of_ble_eq_true rfl) ?_
  refine q_isS hm hR.1 h16 (fun j ej hj => ?_) (fun hn => ?_)
  · subst ej
    have hs' : 0 ≤ nI j ∧ nI j < nI (xM X) := ⟨nI_pos' (by omega), nI_lt hj (by omega)⟩
    refine v_if_eq (t := 29) (q := 8) dX10_feed_5 (by decide) rfl (fun z => absurd z (by decide)) (fun _ => ?_)
    refine v_ild2 (q := 9) dX10_feed_8 rfl ?_
    by_cases c1 : f < 0
    · exact v_if_lt (t := 29) (q := 12) dX10_feed_9 (by decide) rfl (fun _ => no (fun w => absurd c1 (Int32.not_lt.mpr w.2.1))) (fun z => absurd c1 z)
    refine v_if_lt (t := 29) (q := 12) dX10_feed_9 (by decide) rfl (fun z => absurd z c1) (fun _ => ?_)
    obtain ⟨i, hi, rfl⟩ := nI_of c1
    -- it is there
    have rest : i < 8 + xM X → V g mX10_feed (d + 6) 31 [.ref m, .int (nI j), .int (nI i)] [] (mh h m u) Q := fun him => by
      have hb : feedB X (nI j) (nI i) := ⟨hs', nI_pos' (by omega), nI_lt him (by omega)⟩
      have e : doFeed X (nI j) (nI i) = feedR X j i := by
        unfold doFeed
        rw [if_pos hb, nI_clamp (by omega), nI_clamp (by omega)]
      rw [e] at hQ
      clear e hb no
      unfold feedR at hQ
      obtain ⟨⟨x1, x2, x3, x4, x5⟩, x6, x7, ⟨d1, d2⟩, y⟩ := hR.1.2.2.1 j hj
      have hix : (24 : Int32) * nI j + nI i = nI (24 * j + i) := by rw [show (24 : Int32) = nI 24 from rfl, pk_mul, nI_add]
      have ring : (8 + j ≤ i ∨ (8 ≤ i ∧ isW (xS X (i - 8)) = true) ∨ gF (xS X j) i = true) → V g mX10_feed (d + 6) 70 [.ref m, .int (nI j), .int (nI i)] [] (mh h m u) Q := fun hr => by
        rw [if_pos hr] at hQ
        refine v_bipush (q := 72) (v := -3) dX10_feed_70 rfl (by decide) ?_
        refine v_iret dX10_feed_72 rfl ?_
        exact hQ u ws hR hS
      have from56 : i < 8 + j → (8 ≤ i → isW (xS X (i - 8)) = false) → V g mX10_feed (d + 6) 56 [.ref m, .int (nI j), .int (nI i)] [] (mh h m u) Q := fun hij hiw => by
        refine v_ald0 (q := 57) dX10_feed_56 rfl rfl ?_
        refine w_ga (q := 60) (j := 8) dX10_feed_57 rfl hm (by decide) gf_X10_32_9 ?_
        refine v_bipush (q := 62) (v := 24) dX10_feed_60 rfl (by decide) ?_
        refine v_ild1 (q := 63) dX10_feed_62 rfl ?_
        refine v_imul (q := 64) dX10_feed_63 rfl ?_
        refine v_ild2 (q := 65) dX10_feed_64 rfl ?_
        refine v_iadd (q := 66) dX10_feed_65 rfl ?_
        refine w_zald (q := 67) (n := 384) dX10_feed_66 rfl hm (by decide) rfl rfl hix (by omega) ?_
        rw [x6 i (by omega)]
        by_cases hg : gF (xS X j) i = true
        · rw [if_pos hg]
          exact v_if_eq (t := 73) (q := 70) dX10_feed_67 (by decide) rfl (fun z => absurd z (by decide)) (fun _ => ring (Or.inr (Or.inr hg)))
        rw [if_neg hg]
        refine v_if_eq (t := 73) (q := 70) dX10_feed_67 (by decide) rfl (fun _ => ?_) (fun z => absurd rfl z)
        have hg0 := Bool.eq_false_iff.mpr hg
        have hnr : ¬ (8 + j ≤ i ∨ (8 ≤ i ∧ isW (xS X (i - 8)) = true) ∨ gF (xS X j) i = true) := by
          rintro (z | z | z)
          · omega
          · have := hiw z.1
            rw [z.2] at this
            cases this
          · exact hg z
        rw [if_neg hnr] at hQ
        refine v_ald0 (q := 74) dX10_feed_73 rfl rfl ?_
        refine w_ga (q := 77) (j := 10) dX10_feed_74 rfl hm (by decide) gf_X10_38_9 ?_
        refine v_ild1 (q := 78) dX10_feed_77 rfl ?_
        refine w_iald (q := 79) (n := 16) dX10_feed_78 rfl hm (by decide) rfl rfl rfl (by omega) ?_
        rw [d1]
        by_cases h4 : 0 < gI (xS X j) 4
        · rw [if_pos h4] at hQ
          refine v_if_le (t := 85) (q := 82) dX10_feed_79 (by decide) rfl (fun z => absurd z (Int32.not_le.mpr h4)) (fun _ => ?_)
          refine v_bipush (q := 84) (v := -4) dX10_feed_82 rfl (by decide) ?_
          refine v_iret dX10_feed_84 rfl ?_
          exact hQ u ws hR hS
        rw [if_neg h4] at hQ
        refine v_if_le (t := 85) (q := 82) dX10_feed_79 (by decide) rfl (fun _ => ?_) (fun z => absurd (Int32.not_lt.mp h4) z)
        refine v_ald0 (q := 86) dX10_feed_85 rfl rfl ?_
        refine w_ga (q := 89) (j := 8) dX10_feed_86 rfl hm (by decide) gf_X10_32_9 ?_
        refine v_bipush (q := 91) (v := 24) dX10_feed_89 rfl (by decide) ?_
        refine v_ild1 (q := 92) dX10_feed_91 rfl ?_
        refine v_imul (q := 93) dX10_feed_92 rfl ?_
        refine v_ild2 (q := 94) dX10_feed_93 rfl ?_
        refine v_iadd (q := 95) dX10_feed_94 rfl ?_
        refine v_iconst (q := 96) (v := 1) dX10_feed_95 rfl (by decide) ?_
        refine w_zast (q := 97) (n := 384) dX10_feed_96 rfl hm (by decide) rfl rfl hix (by omega) rfl ?_
        refine v_ald0 (q := 98) dX10_feed_97 rfl rfl ?_
        refine v_callV (q := 101) (d' := d + 5) (av := []) dX10_feed_98 rfl ok_X10_hasTooManyWays CL9 ml_X10_137 im_X10_hasTooManyWays se_X10_hasTooManyWays hm.1 (by omega) rfl rfl (Nat.le_of_ble_eq_true rfl) ?_
        refine q_ways (d := d + 4) (fd := fdN X j i) (X := X) (M := xM X) hm h16 hR.1.1.1 (fun t ht => (hR.1.2.2.1 t ht).1.1) (fun t ht f' hf' => fd_row hR.1 (by omega) t ht f' hf') (fun v hv => ?_)
        by_cases htm : tooMany (fdN X j i) (fun s => isW (xS X s)) (xM X) = true
        · rw [if_pos htm] at hQ ⊢
          refine v_if_eq (t := 119) (q := 104) dX10_feed_101 (by decide) rfl (fun z => absurd z (by decide)) (fun _ => ?_)
          refine v_ald0 (q := 105) dX10_feed_104 rfl rfl ?_
          refine w_ga (q := 108) (j := 8) dX10_feed_105 rfl hm (by decide) gf_X10_32_9 ?_
          refine v_bipush (q := 110) (v := 24) dX10_feed_108 rfl (by decide) ?_
          refine v_ild1 (q := 111) dX10_feed_110 rfl ?_
          refine v_imul (q := 112) dX10_feed_111 rfl ?_
          refine v_ild2 (q := 113) dX10_feed_112 rfl ?_
          refine v_iadd (q := 114) dX10_feed_113 rfl ?_
          refine v_iconst (q := 115) (v := 0) dX10_feed_114 rfl (by decide) ?_
          refine w_zast (q := 116) (n := 384) dX10_feed_115 rfl hm (by decide) rfl rfl hix (by omega) rfl ?_
          refine v_bipush (q := 118) (v := -6) dX10_feed_116 rfl (by decide) ?_
          refine v_iret dX10_feed_118 rfl ?_
          refine hQ _ ws (MR.scr hR ⟨fun r hr => ?_, fun r hr => ?_, ?_⟩) hS
          · by_cases e8 : r = 8
            · subst e8
              have hr0 : mI u 8 (24 * j + i) = 0 := by
                rw [x6 i (by omega), hg0]
                rfl
              rw [mI_sI, if_pos rfl, hv.1 8 (by decide), mI_sI, if_pos rfl, upR_up, ← hr0, upR_id]
            · rw [mI_nr _ e8, hv.1 r hr, mI_nr _ e8]
          · exact hv.2.1 r hr
          · exact hv.2.2
        · rw [if_neg htm] at hQ ⊢
          refine v_if_eq (t := 119) (q := 104) dX10_feed_101 (by decide) rfl (fun _ => ?_) (fun z => absurd rfl z)
          have hI1 := hI.feed hj hij hiw (Bool.eq_false_iff.mpr htm)
          have hS1 := hS.feed (i := i) hj
          have hR1 := mr_feed hR hv hj (by omega) hg0
          have e9 : mI v 9 j = nI (cntB (gF (xS X j)) 24) := by
            rw [hv.1 9 (by decide), mI_nr _ (by decide)]
            exact x7
          refine v_ald0 (q := 120) dX10_feed_119 rfl rfl ?_
          refine w_ga (q := 123) (j := 9) dX10_feed_120 rfl hm (by decide) gf_X10_35_9 ?_
          refine v_ild1 (q := 124) dX10_feed_123 rfl ?_
          refine v_dup2 (q := 125) dX10_feed_124 rfl rfl rfl ?_
          refine w_iald (q := 126) (n := 16) dX10_feed_125 rfl hm (by decide) rfl rfl rfl (by omega) ?_
          rw [e9]
          refine v_iconst (q := 127) (v := 1) dX10_feed_126 rfl (by decide) ?_
          refine v_iadd (q := 128) dX10_feed_127 rfl ?_
          rw [nI_1]
          refine w_iast (q := 129) (n := 16) dX10_feed_128 rfl hm (by decide) rfl rfl rfl (by omega) ?_
          generalize sI v 9 j (nI (cntB (gF (xS X j)) 24 + 1)) = v1 at *
          have hC := hI1.2.2.1
          have hT := hI1.2.2.2.1
          refine v_ald0 (q := 130) dX10_feed_129 rfl rfl ?_
          refine v_callV (q := 133) (d' := d + 5) (av := []) dX10_feed_130 rfl ok_X10_marks CL9 ml_X10_141 im_X10_marks se_X10_marks hm.1 (by omega) rfl rfl (Nat.le_of_ble_eq_true rfl) ?_
          refine q_marks (d := d) hm hR1 hI1.1 hI1.2.1 hS1 (by omega) (fun u' ws' hR' => ?_)
          have sg := settle_sg hI1.1 hI1.2.1 hS1
          have hj' : j < xM (settleS (xSet X j (stFd (xS X j) i) (xR X))) := by
            rw [sg.1]
            exact hj
          have e9' := (hR'.1.2.2.1 j hj').2.2.1
          rw [(sg.2 j).1, xS_set] at e9'
          refine v_ald0 (q := 134) dX10_feed_133 rfl rfl ?_
          refine w_ga (q := 137) (j := 9) dX10_feed_134 rfl hm (by decide) gf_X10_35_9 ?_
          refine v_ild1 (q := 138) dX10_feed_137 rfl ?_
          refine w_iald (q := 139) (n := 16) dX10_feed_138 rfl hm (by decide) rfl rfl rfl (by omega) ?_
          rw [e9']
          refine v_iret dX10_feed_139 rfl ?_
          exact hQ u' ws' hR' (hS1.settleS hI1.1 hI1.2.1)
      refine v_ild2 (q := 32) dX10_feed_31 rfl ?_
      refine v_bipush (q := 34) (v := 8) dX10_feed_32 rfl (by decide) ?_
      by_cases h8 : i < 8
      · refine v_icmp_lt (t := 56) (q := 37) dX10_feed_34 (by decide) rfl (fun _ => ?_) (fun z => absurd (show nI i < nI 8 from nI_lt h8 (by decide)) z)
        exact from56 (by omega) (fun z => by omega)
      refine v_icmp_lt (t := 56) (q := 37) dX10_feed_34 (by decide) rfl (fun z => absurd (show nI i < nI 8 from z) (nI_nlt (by omega) (by omega))) (fun _ => ?_)
      have e8 : nI i - 8 = nI (i - 8) := nI_sub (a := i) (c := 8) (by omega)
      refine v_ild2 (q := 38) dX10_feed_37 rfl ?_
      refine v_bipush (q := 40) (v := 8) dX10_feed_38 rfl (by decide) ?_
      refine v_isub (q := 41) dX10_feed_40 rfl ?_
      refine v_ild1 (q := 42) dX10_feed_41 rfl ?_
      rw [e8]
      by_cases hr1 : 8 + j ≤ i
      · exact v_icmp_ge (t := 70) (q := 45) dX10_feed_42 (by decide) rfl (fun _ => ring (Or.inl hr1)) (fun z => absurd (show nI j ≤ nI (i - 8) from nI_le (by omega) (by omega)) z)
      refine v_icmp_ge (t := 70) (q := 45) dX10_feed_42 (by decide) rfl (fun z => absurd z (nI_ge (by omega) (by omega))) (fun _ => ?_)
      refine v_ald0 (q := 46) dX10_feed_45 rfl rfl ?_
      refine v_ild2 (q := 47) dX10_feed_46 rfl ?_
      refine v_bipush (q := 49) (v := 8) dX10_feed_47 rfl (by decide) ?_
      refine v_isub (q := 50) dX10_feed_49 rfl ?_
      rw [e8]
      refine v_callV (q := 53) (d' := d + 5) (av := [.int (nI (i - 8))]) dX10_feed_50 rfl ok_X10_isWindowed CL9 ml_X10_130 im_X10_isWindowed se_X10_isWindowed hm.1 (by omega) rfl rfl (Nat.le_of_ble_eq_true rfl) ?_
      refine q_isW hm hR.1 h16 (by omega) ?_
      by_cases hw : isW (xS X (i - 8)) = true
      · rw [if_pos hw]
        exact v_if_ne (t := 70) (q := 56) dX10_feed_53 (by decide) rfl (fun _ => ring (Or.inr (Or.inl ⟨by omega, hw⟩))) (fun z => absurd z (by decide))
      · rw [if_neg hw]
        exact v_if_ne (t := 70) (q := 56) dX10_feed_53 (by decide) rfl (fun z => absurd rfl z) (fun _ => from56 (by omega) (fun _ => Bool.eq_false_iff.mpr hw))
    refine v_ild2 (q := 13) dX10_feed_12 rfl ?_
    refine v_bipush (q := 15) (v := 8) dX10_feed_13 rfl (by decide) ?_
    by_cases h8 : i < 8
    · refine v_icmp_lt (t := 31) (q := 18) dX10_feed_15 (by decide) rfl (fun _ => rest (by omega)) (fun z => absurd (show nI i < nI 8 from nI_lt h8 (by decide)) z)
    refine v_icmp_lt (t := 31) (q := 18) dX10_feed_15 (by decide) rfl (fun z => absurd (show nI i < nI 8 from z) (nI_nlt (by omega) (by omega))) (fun _ => ?_)
    have e8 : nI i - 8 = nI (i - 8) := nI_sub (a := i) (c := 8) (by omega)
    refine v_ald0 (q := 19) dX10_feed_18 rfl rfl ?_
    refine v_ild2 (q := 20) dX10_feed_19 rfl ?_
    refine v_bipush (q := 22) (v := 8) dX10_feed_20 rfl (by decide) ?_
    refine v_isub (q := 23) dX10_feed_22 rfl ?_
    rw [e8]
    refine v_callV (q := 26) (d' := d + 5) (av := [.int (nI (i - 8))]) dX10_feed_23 rfl ok_X10_is CL9 ml_X10_134 im_X10_is se_X10_is hm.1 (by omega) rfl rfl (Nat.le_of_ble_eq_true rfl) ?_
    refine q_is hm hR.1 ?_
    by_cases him : i < 8 + xM X
    · rw [b01_t ⟨nI_pos' (by omega), nI_lt (by omega) (by omega)⟩]
      exact v_if_ne (t := 31) (q := 29) dX10_feed_26 (by decide) rfl (fun _ => rest him) (fun z => absurd z (by decide))
    · rw [b01_f (fun z => absurd z.2 (nI_nlt (by omega) (by omega)))]
      exact v_if_ne (t := 31) (q := 29) dX10_feed_26 (by decide) rfl (fun z => absurd rfl z) (fun _ => no (fun w => absurd w.2.2 (nI_nlt (by omega) (by omega))))
  · exact v_if_eq (t := 29) (q := 8) dX10_feed_5 (by decide) rfl (fun _ => no (fun w => hn w.1)) (fun z => absurd rfl z)
end LE8
