/-! D3: the model: goesUp, the windows are given; those that are let go -/
def lnS (S : Stg) (ln : Nat → List Wd) : Stg := (gI S, gV S, gF S, ln)
theorem cf_lnS (S : Stg) (ln : Nat → List Wd) : CF S (lnS S ln) := ⟨fun _ _ _ => rfl, rfl, rfl⟩
section LD3
variable {g : Gl} {d : Nat} {h : Hp} {m : Nat} {Q : Option Value → Hp → Prop} {X : Sg} {s : Nat}
theorem gu_give {u : Mu} {was : Int32} {n : Nat} {F : Nat → Nat} {ws0 : List (Option Mw)} (hm : MK h m) (h16 : xM X ≤ 16) (hs : s < xM X) (hW : isW (xS X s) = true) (hO : stOK s (xS X s)) (hn : n ≤ 48100) (h12 : mI u 12 s = gI (xS X s) 20) (hE : tot entS X ≤ 48000) (hlen : ∀ s ky w es, some (s, ky, w, es) ∈ ws0 → es.length ≤ 12000)
    (hFD : ∀ i, i < n → ∃ ky w es, ws0[F i]? = some (some (s, ky, w, es))) (hnd : ∀ i j, i < j → j < n → F i ≠ F j) :
    ∀ (t i : Nat) (v : Mu) (ln : Nat → List Wd) (rows : List Rw) (ws : List (Option Mw)), i + t = n → MRw v (xSet X s (lnS (xS X s) ln) rows) ws → MRr v rows → (∀ k, k < 1000 → LnI (sSes (xS X s)) s k (sSp (xS X s)) (gI (xS X s) 1) rows (ln k)) → (∀ j, j ≤ 18 → mI v j = mI u j) → mL v 18 = mL u 18 → mF v 78 = mF u 78 ∧ mF v 79 = mF u 79 → FA v F n → (∀ j, i ≤ j → j < n → ws[F j]? = ws0[F j]?) → ws.length = ws0.length → (∀ s ky w es, some (s, ky, w, es) ∈ ws → es.length ≤ 12000) → rows.length + 2 * t + 2 < 200000 → tot entS (xSet X s (lnS (xS X s) ln) rows) = tot entS X →
      (∀ v' ln' rows' ws', (ln', rows') = ((List.range' i t).map (fun j => sSl (gt ws0 (F j)).1 (gt ws0 (F j)).2)).foldl (gvS s (sHow (xS X s))) (ln, rows) → MRw v' (xSet X s (lnS (xS X s) ln') rows') ws' → MRr v' rows' → (∀ j, j ≤ 18 → mI v' j = mI u j) → mL v' 18 = mL u 18 → mF v' 78 = mF u 78 ∧ mF v' 79 = mF u 79 → ws'.length = ws0.length → (∀ k, k < 1000 → LnI (sSes (xS X s)) s k (sSp (xS X s)) (gI (xS X s) 1) rows' (ln' k)) → V g mX10_goesUp (d + 4) 111 [.ref m, .int (nI s), .int was, .int (nI n), zz, zz] [] (mh h m v') Q) →
      V g mX10_goesUp (d + 4) 88 [.ref m, .int (nI s), .int was, .int (nI n), .int (nI i), zz] [] (mh h m v) Q := by
  obtain ⟨hBd, o20, o22, o23, okd⟩ := hO
  obtain ⟨B1, B2, B3, B4, B5, B6, B7, B8, B9, B10, B11, B12⟩ := id hBd
  intro t
  induction t with
  | zero =>
    intro i v ln rows ws hi hw hr hI e18 eL eF hFA heq hwl hle hrb het hQ
    have : i = n := by omega
    subst this
    refine v_ild4 (q := 90) dX10_goesUp_88 rfl ?_
    refine v_ild3 (q := 91) dX10_goesUp_90 rfl ?_
    refine v_icmp_ge (t := 111) (q := 94) dX10_goesUp_91 (by decide) rfl (fun _ => ?_) (fun z => absurd (Int32.le_refl _) z)
    refine v_fg (FG.k (FG.k (FG.k (FG.k (FG.z (FG.z FG.nil)))))) ?_
    exact hQ v ln rows ws rfl hw hr e18 eL eF hwl hI
  | succ t ih =>
    intro i v ln rows ws hi hw hr hI e18 eL eF hFA heq hwl hle hrb het hQ
    have hin : i < n := by omega
    obtain ⟨ky, x, es, hx0⟩ := hFD i hin
    have hx : ws[F i]? = some (some (s, ky, x, es)) := (heq i (Nat.le_refl _) hin).trans hx0
    have hmem := List.mem_of_getElem? hx
    have hkl : F i < ws.length := (List.getElem?_eq_some_iff.mp hx).1
    have hn48 := mw_n hw (by rw [het]; exact hE)
    obtain ⟨q1, q2, q3⟩ := hw.2.2.1 s ky x es hmem
    have hxl : x ∈ ln ky := by
      have := mw_lane hw hmem
      rw [xS_set] at this
      exact this
    have hLk := hI ky q3
    have hb := hLk.1 x hxl
    have hvb := hLk.vb B4 hxl
    have hMk := hw.2.1 (F i) _ hx
    have eS : sHow (xS (xSet X s (lnS (xS X s) ln) rows) s) = sHow (xS X s) := by rw [xS_set]; rfl
    rw [List.range'_succ, List.map_cons, List.foldl_cons, gt_at hx0] at hQ
    obtain ⟨A, B, hAB⟩ := List.append_of_mem hxl
    have hmiss : ∀ y ∈ A, ¬ (wB y = wB x ∧ wE y = wE x) := fun y hy z => by
      have hp := hLk.2
      rw [hAB] at hp
      have := (List.pairwise_append.mp hp).2.2 y hy x List.mem_cons_self
      rw [z.1] at this
      omega
    have egv : gvS s (sHow (xS X s)) (ln, rows) (sSl ky x) = (upR ln ky (A ++ (finW s ky (sHow (xS X s)) True rows x).1 :: B), (finW s ky (sHow (xS X s)) True rows x).2) := by
      unfold sSl
      rw [gvS_slot (ln, rows) hvb q3]
      show (upR ln ky (gvL s ky (sHow (xS X s)) rows (wB x) (wE x) (ln ky)).1, (gvL s ky (sHow (xS X s)) rows (wB x) (wE x) (ln ky)).2) = _
      rw [hAB, gvL_hit ⟨rfl, rfl⟩ hmiss]
    have egv' : gvS s (sHow (xS X s)) (ln, rows) (sSl (ky, x).1 (ky, x).2) = (upR ln ky (A ++ (finW s ky (sHow (xS X s)) True rows x).1 :: B), (finW s ky (sHow (xS X s)) True rows x).2) := egv
    rw [egv'] at hQ
    have hgive := LnI.give (how := sHow (xS X s)) (by rw [hAB] at hLk; exact hLk)
    obtain ⟨more, hmore⟩ := hgive.2.2.1
    refine v_ild4 (q := 90) dX10_goesUp_88 rfl ?_
    refine v_ild3 (q := 91) dX10_goesUp_90 rfl ?_
    refine v_icmp_ge (t := 111) (q := 94) dX10_goesUp_91 (by decide) rfl (fun z => absurd z (nI_ge (by omega) (by omega))) (fun _ => ?_)
    refine v_ald0 (q := 95) dX10_goesUp_94 rfl rfl ?_
    refine v_ald0 (q := 96) dX10_goesUp_95 rfl rfl ?_
    refine w_ga (q := 99) (j := 36) dX10_goesUp_96 rfl hm (by decide) gf_X10_119_9 ?_
    refine v_ild4 (q := 101) dX10_goesUp_99 rfl ?_
    refine w_iald (q := 102) (n := 48100) dX10_goesUp_101 rfl hm (by decide) rfl rfl rfl (by omega) ?_
    rw [hFA i hin]
    refine v_callV (q := 105) (d' := d + 3) (av := [.int (nI (F i))]) dX10_goesUp_102 rfl ok_X10_give CL9 ml_X10_193 im_X10_give se_X10_give hm.1 (by omega) rfl rfl (Nat.le_of_ble_eq_true rfl) ?_
    refine q_give (d := d + 1) (X := xSet X s (lnS (xS X s) ln) rows) hm (by omega) (by omega) hMk (by rw [e18 12 (by decide), h12, o20, eS]) (by rw [eS]; exact B2) (mw_es hw (by rw [het]; exact hE) hmem) (hle s ky x es hmem) hb.1 hr (by omega) hb.2.1 (fun v1 g1 g36 r1 z1 => ?_)
    rw [eS] at r1 z1
    have hfl : (finW s ky (sHow (xS X s)) True rows x).2.length ≤ rows.length + 2 := finW_le
    obtain ⟨y1, y2, y3, _⟩ := finW_p (how := sHow (xS X s)) (gv := True) hb.2.1
    have hMk1 : MWk v1 (xSet X s (lnS (xS X s) ln) rows) (F i) (some (s, ky, (finW s ky (sHow (xS X s)) True rows x).1, es)) := by
      obtain ⟨w1, w2, w3, w4, w5, w6, w7, w8, w9⟩ := hMk
      refine ⟨by rw [g1.1 19 (by decide) (by decide)]; exact w1, by rw [g1.1 20 (by decide) (by decide)]; exact w2, by rw [g1.1 21 (by decide) (by decide), y1]; exact w3, by rw [g1.1 22 (by decide) (by decide), y2]; exact w4, ?_, z1, by rw [g1.1 26 (by decide) (by decide)]; exact w7, ?_, ?_⟩
      · rw [g1.1 23 (by decide) (by decide), w5]
        unfold thr
        rw [y2]
      · rw [g1.1 28 (by decide) (by decide), g1.1 25 (by decide) (by decide)]
        exact w8
      · rw [g1.2.2.1 27 (by decide) (by decide), y3]
        exact w9
    have hw1 := hw.repl (rows' := (finW s ky (sHow (xS X s)) True rows x).2) (S' := lnS (xS X s) (upR ln ky (A ++ (finW s ky (sHow (xS X s)) True rows x).1 :: B))) (A := A) (B := B) hs q2 q3 hx (by rw [xS_set]; exact hAB) (by rw [xS_set]; exact ⟨fun _ _ _ => rfl, rfl, rfl⟩) (by rw [xS_set]; rfl) (by rw [y3]) g1 hMk1
    rw [xSet_set] at hw1
    have het1 : tot entS (xSet X s (lnS (xS X s) (upR ln ky (A ++ (finW s ky (sHow (xS X s)) True rows x).1 :: B))) (finW s ky (sHow (xS X s)) True rows x).2) = tot entS X := by
      have t1 := tot_set entS X hs (lnS (xS X s) ln) rows
      have t2 := tot_set entS X hs (lnS (xS X s) (upR ln ky (A ++ (finW s ky (sHow (xS X s)) True rows x).1 :: B))) (finW s ky (sHow (xS X s)) True rows x).2
      have e1 : entS (lnS (xS X s) ln) = sm vN ln := if_pos hW
      have e2 : entS (lnS (xS X s) (upR ln ky (A ++ (finW s ky (sHow (xS X s)) True rows x).1 :: B))) = sm vN (upR ln ky (A ++ (finW s ky (sHow (xS X s)) True rows x).1 :: B)) := if_pos hW
      have t3 := sm_upd vN ln q3 (A ++ (finW s ky (sHow (xS X s)) True rows x).1 :: B)
      rw [hAB, vN_app, vN_app, vN_cons, vN_cons, y3] at t3
      omega
    refine v_inc4 (q := 108) dX10_goesUp_105 rfl (by decide) rfl rfl ?_
    rw [inc1]
    refine v_goto (q := 88) dX10_goesUp_108 (by decide) ?_
    refine ih (i + 1) v1 _ _ (ws.set (F i) (some (s, ky, (finW s ky (sHow (xS X s)) True rows x).1, es))) (by omega) hw1 r1 (fun k hk => ?_) (fun j hj => (g1.1 j (by omega) (by omega)).trans (e18 j hj)) ((g1.2.2.1 18 (by decide) (by decide)).trans eL) ⟨(g1.2.2.2 78 (by decide)).trans eF.1, (g1.2.2.2 79 (by decide)).trans eF.2⟩ (fun j hj => by rw [g36]; exact hFA j hj) (fun j hj hjn => ?_) (by rw [List.length_set]; exact hwl) (fun s' k' w' es' hx' => ?_) (by omega) het1 (fun v2 ln2 rows2 ws2 e2 a2 b2 c2 d2 f2 l2 i2 => hQ v2 ln2 rows2 ws2 e2 a2 b2 c2 d2 f2 l2 i2)
    · by_cases e : k = ky
      · subst e
        rw [upR_at]
        exact hgive.1
      · rw [upR_ne _ _ e, hmore]
        exact (hI k hk).app
    · rw [List.getElem?_set_ne (hnd i j (by omega) hjn)]
      exact heq j (by omega) hjn
    · rcases List.mem_or_eq_of_mem_set hx' with z | z
      · exact hle s' k' w' es' z
      · have := Option.some.inj z
        simp only [Prod.mk.injEq] at this
        rw [this.2.2.2]
        exact hle s ky x es hmem
theorem gu_there {u : Mu} {was to : Int32} {Y Y' : Sg} {ws : List (Option Mw)} {c3 : Int32} (hm : MK h m) (h16 : xM X ≤ 16) (hs : s < 16) (hn : ws.length < 48100) (hw : MRw u Y ws) (h6 : mI u 6 s = to) (h3 : mI u 3 s = gI (xS Y s) 3) (h4 : mI u 4 s = gI (xS Y s) 6) (h13 : mI u 13 s = gI (xS Y s) 21) (hmk : (gI (xS Y s) 1).toInt ≤ to.toInt) (hM : xM Y ≤ 16)
    (hX : ∀ t, t ≠ s → sSty (xS Y' t) = sSty (xS Y t) ∧ gI (xS Y' t) 1 = gI (xS Y t) 1) (hXs : sSty (xS Y' s) = sSty (xS Y s) ∧ gI (xS Y' s) 1 = to)
    (htl : ∀ ky w es, some (s, ky, w, es) ∈ ws → ((if gI (xS Y s) 3 = 6 then wE w + gI (xS Y s) 6 + gI (xS Y s) 21 else wE w + gI (xS Y s) 21).toInt = (wE w).toInt + sSty (xS Y s))) :
    ∀ (t k : Nat) (v : Mu), k + t = ws.length → (∀ j, j ≠ 23 → mI v j = mI u j) → mL v = mL u → mF v = mF u → (∀ j, k ≤ j → mI v 23 j = mI u 23 j) → (∀ j o, j < k → ws[j]? = some o → MWk v Y' j o) →
      (∀ v', (∀ j, j ≠ 23 → mI v' j = mI u j) → mL v' = mL u → mF v' = mF u → (∀ j o, ws[j]? = some o → MWk v' Y' j o) → Q none (mh h m v')) →
      V g mX10_goesUp (d + 4) 114 [.ref m, .int (nI s), .int was, .int c3, .int (nI k), zz] [] (mh h m v) Q := by
  intro t
  induction t with
  | zero =>
    intro k v hk e1 eL eF e23 hM' hQ
    have : k = ws.length := by omega
    subst this
    refine v_ild4 (q := 116) dX10_goesUp_114 rfl ?_
    refine v_ald0 (q := 117) dX10_goesUp_116 rfl rfl ?_
    refine w_gi (q := 120) dX10_goesUp_117 rfl hm gf_X10_170_9 ?_
    rw [eF, hw.1]
    refine v_icmp_ge (t := 224) (q := 123) dX10_goesUp_120 (by decide) rfl (fun _ => ?_) (fun z => absurd (Int32.le_refl _) z)
    refine v_vret dX10_goesUp_224 rfl ?_
    exact hQ v e1 eL eF (fun j o ho => hM' j o (List.getElem?_eq_some_iff.mp ho).1 ho)
  | succ t ih =>
    intro k v hk e1 eL eF e23 hM' hQ
    have hkl : k < ws.length := by omega
    obtain ⟨o, ho, hd, hW⟩ := hw.at hkl
    refine v_ild4 (q := 116) dX10_goesUp_114 rfl ?_
    refine v_ald0 (q := 117) dX10_goesUp_116 rfl rfl ?_
    refine w_gi (q := 120) dX10_goesUp_117 rfl hm gf_X10_170_9 ?_
    rw [eF, hw.1]
    refine v_icmp_ge (t := 224) (q := 123) dX10_goesUp_120 (by decide) rfl (fun z => absurd z (nI_ge (by omega) (by omega))) (fun _ => ?_)
    have rest : ∀ v1 : Mu, (∀ j, j ≠ 23 → mI v1 j = mI v j) → mL v1 = mL v → mF v1 = mF v → (∀ j, j ≠ k → mI v1 23 j = mI v 23 j) → MWk v1 Y' k o → V g mX10_goesUp (d + 4) 218 [.ref m, .int (nI s), .int was, .int c3, .int (nI k), zz] [] (mh h m v1) Q := fun v1 a1 aL aF a23 aM => by
      refine v_inc4 (q := 221) dX10_goesUp_218 rfl (by decide) rfl rfl ?_
      rw [inc1]
      refine v_goto (q := 114) dX10_goesUp_221 (by decide) ?_
      refine ih (k + 1) v1 (by omega) (fun j hj => (a1 j hj).trans (e1 j hj)) (aL.trans eL) (aF.trans eF) (fun j hj => (a23 j (by omega)).trans (e23 j (by omega))) (fun j o' hj ho' => ?_) hQ
      by_cases e : j = k
      · subst e
        rw [ho] at ho'
        have := Option.some.inj ho'
        subst this
        exact aM
      · refine (hM' j o' (by omega) ho').on (fun r h1 h2 => ?_) (fun i _ => ⟨by rw [a1 28 (by decide)], by rw [aL]⟩) (fun _ => ⟨rfl, rfl⟩)
        by_cases e2 : r = 23
        · subst e2
          exact a23 j e
        · rw [a1 r e2]
    have keep : MWk v Y' k o → V g mX10_goesUp (d + 4) 218 [.ref m, .int (nI s), .int was, .int c3, .int (nI k), zz] [] (mh h m v) Q := fun aM => rest v (fun _ _ => rfl) rfl rfl (fun _ _ => rfl) aM
    have hWv : ∀ hX' : ∀ t, sSty (xS Y' t) = sSty (xS Y t) ∧ gI (xS Y' t) 1 = gI (xS Y t) 1 ∨ t = s, True := fun _ => trivial
    refine v_ald0 (q := 124) dX10_goesUp_123 rfl rfl ?_
    refine w_ga (q := 127) (j := 19) dX10_goesUp_124 rfl hm (by decide) gf_X10_67_9 ?_
    refine v_ild4 (q := 129) dX10_goesUp_127 rfl ?_
    refine w_iald (q := 130) (n := 48100) dX10_goesUp_129 rfl hm (by decide) rfl rfl rfl (by omega) ?_
    rw [e1 19 (by decide)]
    match o, hW, ho with
    | none, hW, ho =>
      have hN : MWk v Y' k none := (congrFun (e1 19 (by decide)) k).trans hW
      rw [show mI u 19 k = -1 from hW]
      refine v_ild1 (q := 131) dX10_goesUp_130 rfl ?_
      refine v_icmp_ne (t := 218) (q := 134) dX10_goesUp_131 (by decide) rfl (fun _ => keep hN) (fun z => absurd z.symm (nI_m1 (by omega)))
    | some (s', ky, w, es), hW, ho =>
      obtain ⟨w1, w2, w3, w4, w5, w6, w7, w8, w9⟩ := id hW
      have hx := List.mem_of_getElem? ho
      have hs' := (hw.2.2.1 s' ky w es hx).1
      have mk : ∀ (v1 : Mu) (fl : Int32), (∀ j, j ≠ 23 → mI v1 j = mI u j) → mL v1 = mL u → mI v1 23 k = fl → fl = (if thr (sSty (xS Y' s')) (gI (xS Y' s') 1) w then 1 else 0) → MWk v1 Y' k (some (s', ky, w, es)) := fun v1 fl b1 bL b2 b3 => by
        refine ⟨by rw [b1 19 (by decide)]; exact w1, by rw [b1 20 (by decide)]; exact w2, by rw [b1 21 (by decide)]; exact w3, by rw [b1 22 (by decide)]; exact w4, b2.trans b3, by rw [b1 24 (by decide)]; exact w6, by rw [b1 26 (by decide)]; exact w7, ?_, ?_⟩
        · rw [b1 28 (by decide), b1 25 (by decide)]
          exact w8
        · rw [bL]
          exact w9
      rw [w1]
      refine v_ild1 (q := 131) dX10_goesUp_130 rfl ?_
      by_cases e : s' = s
      · subst e
        refine v_icmp_ne (t := 218) (q := 134) dX10_goesUp_131 (by decide) rfl (fun z => absurd rfl z) (fun _ => ?_)
        refine v_ald0 (q := 135) dX10_goesUp_134 rfl rfl ?_
        refine w_ga (q := 138) (j := 23) dX10_goesUp_135 rfl hm (by decide) gf_X10_79_9 ?_
        refine v_ild4 (q := 140) dX10_goesUp_138 rfl ?_
        refine w_zald (q := 141) (n := 48100) dX10_goesUp_140 rfl hm (by decide) rfl rfl rfl (by omega) ?_
        rw [e23 k (Nat.le_refl _), w5]
        have htl' := htl ky w es hx
        by_cases ht : thr (sSty (xS Y s')) (gI (xS Y s') 1) w = true
        · rw [if_pos ht]
          refine v_if_eq (t := 218) (q := 144) dX10_goesUp_141 (by decide) rfl (fun z => absurd z (by decide)) (fun _ => ?_)
          have fin : ∀ tl : Int32, tl.toInt = (wE w).toInt + sSty (xS Y s') → V g mX10_goesUp (d + 4) 193 [.ref m, .int (nI s'), .int was, .int c3, .int (nI k), zz] [.int tl] (mh h m v) Q := fun tl htl2 => by
            refine v_ist5 (q := 195) dX10_goesUp_193 rfl (by decide) rfl ?_
            refine v_ald0 (q := 196) dX10_goesUp_195 rfl rfl ?_
            refine w_ga (q := 199) (j := 23) dX10_goesUp_196 rfl hm (by decide) gf_X10_79_9 ?_
            refine v_ild4 (q := 201) dX10_goesUp_199 rfl ?_
            refine v_ild5 (q := 203) dX10_goesUp_201 rfl ?_
            refine v_ald0 (q := 204) dX10_goesUp_203 rfl rfl ?_
            refine w_ga (q := 207) (j := 6) dX10_goesUp_204 rfl hm (by decide) gf_X10_26_9 ?_
            refine v_ild1 (q := 208) dX10_goesUp_207 rfl ?_
            refine w_iald (q := 209) (n := 16) dX10_goesUp_208 rfl hm (by decide) rfl rfl rfl (by omega) ?_
            rw [e1 6 (by decide), h6]
            have done : ∀ x : Int32, narrow .boolean (.int x) = .int x → x = (if thr (sSty (xS Y' s')) (gI (xS Y' s') 1) w then 1 else 0) → V g mX10_goesUp (d + 4) 217 [.ref m, .int (nI s'), .int was, .int c3, .int (nI k), .int tl] [.int x, .int (nI k), .ref (m + 23)] (mh h m v) Q := fun x hnar hx' => by
              refine w_zast (q := 218) (n := 48100) dX10_goesUp_217 rfl hm (by decide) rfl rfl rfl (by omega) hnar ?_
              refine v_fg (FG.k (FG.k (FG.k (FG.k (FG.k (FG.z FG.nil)))))) ?_
              refine rest _ (fun j hj => mI_nr _ hj) rfl rfl (fun j hj => mI_ni _ hj) (mk _ x (fun j hj => (mI_nr _ hj).trans (e1 j hj)) eL (mI_at _ _ _) hx')
            have hth : thr (sSty (xS Y' s')) (gI (xS Y' s') 1) w = decide (to < tl) := by
              unfold thr
              rw [hXs.1, hXs.2]
              refine decide_eq_decide.mpr ?_
              rw [fa_lt, htl2]
            rw [hth] at done
            by_cases hlt : to < tl
            · refine v_icmp_le (t := 216) (q := 212) dX10_goesUp_209 (by decide) rfl (fun z => absurd hlt (Int32.not_lt.mpr z)) (fun _ => ?_)
              refine v_iconst (q := 213) (v := 1) dX10_goesUp_212 rfl (by decide) ?_
              refine v_goto (q := 217) dX10_goesUp_213 (by decide) ?_
              exact done 1 rfl (if_pos (decide_eq_true hlt)).symm
            · refine v_icmp_le (t := 216) (q := 212) dX10_goesUp_209 (by decide) rfl (fun _ => ?_) (fun z => absurd (Int32.not_lt.mp hlt) z)
              refine v_iconst (q := 217) (v := 0) dX10_goesUp_216 rfl (by decide) ?_
              exact done 0 rfl (if_neg (fun z => hlt (of_decide_eq_true z))).symm
          refine v_ald0 (q := 145) dX10_goesUp_144 rfl rfl ?_
          refine w_ga (q := 148) (j := 3) dX10_goesUp_145 rfl hm (by decide) gf_X10_17_9 ?_
          refine v_ild1 (q := 149) dX10_goesUp_148 rfl ?_
          refine w_iald (q := 150) (n := 16) dX10_goesUp_149 rfl hm (by decide) rfl rfl rfl (by omega) ?_
          rw [e1 3 (by decide), h3]
          refine v_bipush (q := 152) (v := 6) dX10_goesUp_150 rfl (by decide) ?_
          by_cases h6' : gI (xS Y s') 3 = 6
          · rw [if_pos h6'] at htl'
            refine v_icmp_ne (t := 179) (q := 155) dX10_goesUp_152 (by decide) rfl (fun z => absurd h6' z) (fun _ => ?_)
            refine v_ald0 (q := 156) dX10_goesUp_155 rfl rfl ?_
            refine w_ga (q := 159) (j := 22) dX10_goesUp_156 rfl hm (by decide) gf_X10_76_9 ?_
            refine v_ild4 (q := 161) dX10_goesUp_159 rfl ?_
            refine w_iald (q := 162) (n := 48100) dX10_goesUp_161 rfl hm (by decide) rfl rfl rfl (by omega) ?_
            refine v_ald0 (q := 163) dX10_goesUp_162 rfl rfl ?_
            refine w_ga (q := 166) (j := 4) dX10_goesUp_163 rfl hm (by decide) gf_X10_20_9 ?_
            refine v_ild1 (q := 167) dX10_goesUp_166 rfl ?_
            refine w_iald (q := 168) (n := 16) dX10_goesUp_167 rfl hm (by decide) rfl rfl rfl (by omega) ?_
            refine v_iadd (q := 169) dX10_goesUp_168 rfl ?_
            refine v_ald0 (q := 170) dX10_goesUp_169 rfl rfl ?_
            refine w_ga (q := 173) (j := 13) dX10_goesUp_170 rfl hm (by decide) gf_X10_47_9 ?_
            refine v_ild1 (q := 174) dX10_goesUp_173 rfl ?_
            refine w_iald (q := 175) (n := 16) dX10_goesUp_174 rfl hm (by decide) rfl rfl rfl (by omega) ?_
            rw [e1 22 (by decide), w4, e1 4 (by decide), h4, e1 13 (by decide), h13]
            refine v_iadd (q := 176) dX10_goesUp_175 rfl ?_
            refine v_goto (q := 193) dX10_goesUp_176 (by decide) ?_
            exact fin _ htl'
          · rw [if_neg h6'] at htl'
            refine v_icmp_ne (t := 179) (q := 155) dX10_goesUp_152 (by decide) rfl (fun _ => ?_) (fun z => absurd z h6')
            refine v_ald0 (q := 180) dX10_goesUp_179 rfl rfl ?_
            refine w_ga (q := 183) (j := 22) dX10_goesUp_180 rfl hm (by decide) gf_X10_76_9 ?_
            refine v_ild4 (q := 185) dX10_goesUp_183 rfl ?_
            refine w_iald (q := 186) (n := 48100) dX10_goesUp_185 rfl hm (by decide) rfl rfl rfl (by omega) ?_
            refine v_ald0 (q := 187) dX10_goesUp_186 rfl rfl ?_
            refine w_ga (q := 190) (j := 13) dX10_goesUp_187 rfl hm (by decide) gf_X10_47_9 ?_
            refine v_ild1 (q := 191) dX10_goesUp_190 rfl ?_
            refine w_iald (q := 192) (n := 16) dX10_goesUp_191 rfl hm (by decide) rfl rfl rfl (by omega) ?_
            rw [e1 22 (by decide), w4, e1 13 (by decide), h13]
            refine v_iadd (q := 193) dX10_goesUp_192 rfl ?_
            exact fin _ htl'
        · rw [if_neg ht]
          refine v_if_eq (t := 218) (q := 144) dX10_goesUp_141 (by decide) rfl (fun _ => ?_) (fun z => absurd rfl z)
          refine keep (mk v 0 e1 eL ((e23 k (Nat.le_refl _)).trans (w5.trans (if_neg ht))) ?_)
          refine (if_neg (fun z => ht ?_)).symm
          unfold thr at z ⊢
          rw [hXs.1, hXs.2] at z
          have := of_decide_eq_true z
          exact decide_eq_true (by omega)
      · refine v_icmp_ne (t := 218) (q := 134) dX10_goesUp_131 (by decide) rfl (fun _ => ?_) (fun z => absurd ((nI_eq (by omega) (by omega)).mp z) e)
        refine keep (mk v _ e1 eL ((e23 k (Nat.le_refl _)).trans w5) ?_)
        rw [(hX s' e).1, (hX s' e).2]
end LD3
