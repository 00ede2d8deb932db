/-! C0: the model: apart -/
section LC0
variable {g : Gl} {d : Nat} {h : Hp} {m : Nat} {u : Mu} {Q : Option Value → Hp → Prop} {X : Sg} {ws : List (Option Mw)}
theorem mw_es {s ky : Nat} {w : Wd} {es : List Nat} (hw : MRw u X ws) (hE : tot entS X ≤ 48000) (hx : some (s, ky, w, es) ∈ ws) : ∀ i ∈ es, i < 48100 := fun i hi => by
  obtain ⟨ne, _, _, h3, h4⟩ := hw.2.2.2.2.1
  have := h4 i (List.mem_flatMap.mpr ⟨_, hx, hi⟩)
  omega
theorem mw_n (hw : MRw u X ws) (hE : tot entS X ≤ 48000) : ws.length < 48100 := by
  obtain ⟨ne, _, h2, h3, _⟩ := hw.2.2.2.2.1
  omega
def gWr (X : Sg) (s : Nat) (w : Wd) : Nat := if wrg (sHow (xS X s)) (gI (xS X s) 1) (xR X) w then 1 else 0
theorem wrg_smG (how : Nat) (mk : Int32) (rows : List Rw) (L : List Wd) : L.countP (wrg how mk rows) = smG (fun x => if wrg how mk rows x then 1 else 0) L := by
  unfold smG
  induction L with
  | nil => rfl
  | cons x L ih => rw [List.countP_cons, List.map_cons, List.sum_cons, ih]; omega
theorem ap_loop {s : Nat} (hm : MK h m) (hR : MR u X ws) (hS : SI X) (h16 : xM X ≤ 16) (hs : s < xM X) (hW : isW (xS X s) = true) (hE : tot entS X ≤ 48000) (hr : (xR X).length < 200000) (hlen : ∀ s ky w es, some (s, ky, w, es) ∈ ws → es.length ≤ 12000) :
    ∀ (t k acc : Nat) (v : Mu), k + t = ws.length → Scr u v → (∀ v', Scr u v' → Q (some (.int (nI (acc + ((ws.drop k).map (wt s (gWr X s))).sum)))) (mh h m v')) → V g mX10_apart (d + 2) 25 [.ref m, .int (nI s), .int (nI acc), .int (nI k)] [] (mh h m v) Q := by
  have hn := mw_n hR.2.2 hE
  obtain ⟨hO, hL, _⟩ := (hS.1 s hs).1 hW
  intro t
  induction t with
  | zero =>
    intro k acc v hk hc hQ
    have : k = ws.length := by omega
    subst this
    rw [List.drop_eq_nil_of_le (Nat.le_refl _)] at hQ
    refine v_ild3 (q := 26) dX10_apart_25 rfl ?_
    refine v_ald0 (q := 27) dX10_apart_26 rfl rfl ?_
    refine w_gi (q := 30) dX10_apart_27 rfl hm gf_X10_170_9 ?_
    rw [hc.2.2, hR.2.2.1]
    refine v_icmp_ge (t := 101) (q := 33) dX10_apart_30 (by decide) rfl (fun _ => ?_) (fun z => absurd (Int32.le_refl _) z)
    refine v_ild2 (q := 102) dX10_apart_101 rfl ?_
    refine v_iret dX10_apart_102 rfl ?_
    exact hQ v hc
  | succ t ih =>
    intro k acc v hk hc hQ
    have hkl : k < ws.length := by omega
    obtain ⟨o, ho, hd, hWk⟩ := (hR.scr hc).2.2.at hkl
    rw [hd, List.map_cons, List.sum_cons, ← Nat.add_assoc] at hQ
    refine v_ild3 (q := 26) dX10_apart_25 rfl ?_
    refine v_ald0 (q := 27) dX10_apart_26 rfl rfl ?_
    refine w_gi (q := 30) dX10_apart_27 rfl hm gf_X10_170_9 ?_
    rw [hc.2.2, hR.2.2.1]
    refine v_icmp_ge (t := 101) (q := 33) dX10_apart_30 (by decide) rfl (fun z => absurd z (nI_ge (by omega) (by omega))) (fun _ => ?_)
    have skip : wt s (gWr X s) o = 0 → V g mX10_apart (d + 2) 95 [.ref m, .int (nI s), .int (nI acc), .int (nI k)] [] (mh h m v) Q := fun e => by
      rw [e, Nat.add_zero] at hQ
      refine v_inc3 (q := 98) dX10_apart_95 rfl (by decide) rfl rfl ?_
      rw [inc1]
      refine v_goto (q := 25) dX10_apart_98 (by decide) ?_
      exact ih (k + 1) acc v (by omega) hc hQ
    have rest : ∀ (v1 : Mu) (x : Nat), Scr u v1 → x = wt s (gWr X s) o → V g mX10_apart (d + 2) 93 [.ref m, .int (nI s), .int (nI acc), .int (nI k)] [.int (nI x), .int (nI acc)] (mh h m v1) Q := fun v1 x h1 hx => by
      subst hx
      refine v_iadd (q := 94) dX10_apart_93 rfl ?_
      rw [nI_add]
      refine v_ist2 (q := 95) dX10_apart_94 rfl (by decide) rfl ?_
      refine v_inc3 (q := 98) dX10_apart_95 rfl (by decide) rfl rfl ?_
      rw [inc1]
      refine v_goto (q := 25) dX10_apart_98 (by decide) ?_
      exact ih (k + 1) _ v1 (by omega) h1 hQ
    refine v_ald0 (q := 34) dX10_apart_33 rfl rfl ?_
    refine w_ga (q := 37) (j := 19) dX10_apart_34 rfl hm (by decide) gf_X10_67_9 ?_
    refine v_ild3 (q := 38) dX10_apart_37 rfl ?_
    refine w_iald (q := 39) (n := 48100) dX10_apart_38 rfl hm (by decide) rfl rfl rfl (by omega) ?_
    match o, hWk, ho with
    | none, hWk, ho =>
      rw [show mI v 19 k = -1 from hWk]
      refine v_ild1 (q := 40) dX10_apart_39 rfl ?_
      refine v_icmp_ne (t := 95) (q := 43) dX10_apart_40 (by decide) rfl (fun _ => skip rfl) (fun z => absurd z.symm (nI_m1 (by omega)))
    | some (s', ky, w, es), hWk, ho =>
      obtain ⟨w1, w2, w3, w4, w5, w6, w7, w8, w9⟩ := id hWk
      have hx := List.mem_of_getElem? ho
      obtain ⟨q1, q2, q3⟩ := hR.2.2.2.2.1 s' ky w es hx
      have hrow := mw_row hR.2.2 hS hx
      rw [w1]
      refine v_ild1 (q := 40) dX10_apart_39 rfl ?_
      by_cases e : s' = s
      · subst e
        refine v_icmp_ne (t := 95) (q := 43) dX10_apart_40 (by decide) rfl (fun z => absurd rfl z) (fun _ => ?_)
        have rs := (hR.scr hc).1.2.2.1 s' hs
        have hlw := (hL ky q3).1 w (mw_lane hR.2.2 hx)
        have eW : wt s' (gWr X s') (some (s', ky, w, es)) = gWr X s' w := if_pos rfl
        rw [eW] at skip rest
        refine v_ald0 (q := 44) dX10_apart_43 rfl rfl ?_
        refine w_ga (q := 47) (j := 22) dX10_apart_44 rfl hm (by decide) gf_X10_76_9 ?_
        refine v_ild3 (q := 48) dX10_apart_47 rfl ?_
        refine w_iald (q := 49) (n := 48100) dX10_apart_48 rfl hm (by decide) rfl rfl rfl (by omega) ?_
        rw [w4]
        refine v_ald0 (q := 50) dX10_apart_49 rfl rfl ?_
        refine w_ga (q := 53) (j := 6) dX10_apart_50 rfl hm (by decide) gf_X10_26_9 ?_
        refine v_ild1 (q := 54) dX10_apart_53 rfl ?_
        refine w_iald (q := 55) (n := 16) dX10_apart_54 rfl hm (by decide) rfl rfl rfl (by omega) ?_
        rw [rs.1.2.2.2.1]
        by_cases hem : gI (xS X s') 1 < wE w
        · refine v_icmp_gt (t := 95) (q := 58) dX10_apart_55 (by decide) rfl (fun _ => skip ?_) (fun z => absurd hem z)
          unfold gWr
          refine if_neg (fun z => ?_)
          unfold wrg at z
          rw [decide_eq_false (Int32.not_le.mpr hem), Bool.false_and] at z
          cases z
        · refine v_icmp_gt (t := 95) (q := 58) dX10_apart_55 (by decide) rfl (fun z => absurd z hem) (fun _ => ?_)
          have hle := Int32.not_lt.mp hem
          refine v_ild2 (q := 59) dX10_apart_58 rfl ?_
          refine v_ald0 (q := 60) dX10_apart_59 rfl rfl ?_
          refine w_ga (q := 63) (j := 24) dX10_apart_60 rfl hm (by decide) gf_X10_82_9 ?_
          refine v_ild3 (q := 64) dX10_apart_63 rfl ?_
          refine w_iald (q := 65) (n := 48100) dX10_apart_64 rfl hm (by decide) rfl rfl rfl (by omega) ?_
          rw [w6]
          have hneg := rI_neg (o := wR w) (fun r hr' => by have := hrow r hr'; omega)
          match hwr : wR w, hneg with
          | none, hneg =>
            refine v_if_lt (t := 88) (q := 68) dX10_apart_65 (by decide) rfl (fun _ => ?_) (fun z => absurd (hneg.mpr rfl) z)
            refine v_iconst (q := 89) (v := 1) dX10_apart_88 rfl (by decide) ?_
            refine v_goto (q := 93) dX10_apart_89 (by decide) ?_
            refine rest v 1 hc ?_
            unfold gWr wrg
            rw [hwr, decide_eq_true hle]
            rfl
          | some r, hneg =>
            refine v_if_lt (t := 88) (q := 68) dX10_apart_65 (by decide) rfl (fun z => by cases hneg.mp z) (fun _ => ?_)
            have hrl := hrow r hwr
            obtain ⟨y, hy⟩ := hlw.2.1 r hwr
            have hro := (hR.scr hc).2.1.2 r _ hy
            refine v_ald0 (q := 69) dX10_apart_68 rfl rfl ?_
            refine w_ga (q := 72) (j := 34) dX10_apart_69 rfl hm (by decide) gf_X10_113_9 ?_
            refine v_ald0 (q := 73) dX10_apart_72 rfl rfl ?_
            refine w_ga (q := 76) (j := 24) dX10_apart_73 rfl hm (by decide) gf_X10_82_9 ?_
            refine v_ild3 (q := 77) dX10_apart_76 rfl ?_
            refine w_iald (q := 78) (n := 48100) dX10_apart_77 rfl hm (by decide) rfl rfl rfl (by omega) ?_
            rw [w6, hwr]
            refine w_lald (q := 79) (n := 200000) (t := r) dX10_apart_78 rfl hm (by decide) rfl rfl rfl (by omega) ?_
            rw [hro.2.2.2.2.2]
            refine v_ald0 (q := 80) dX10_apart_79 rfl rfl ?_
            refine v_ild3 (q := 81) dX10_apart_80 rfl ?_
            refine v_callV (q := 84) (d' := d + 1) (av := [.int (nI k)]) dX10_apart_81 rfl ok_X10_sumOf CL9 ml_X10_166 im_X10_sumOf se_X10_sumOf hm.1 (by omega) rfl rfl (Nat.le_of_ble_eq_true rfl) ?_
            refine q_sumOf (d := d) (u := v) hm (by omega) (by omega) hWk (rs.2.2.2.1.2.2.1.trans hO.2.1) hO.1.2.1 (mw_es hR.2.2 hE hx) (hlen s' ky w es hx) hlw.1 (fun v2 hv2 _ => ?_)
            refine v_lcmp (q := 85) dX10_apart_84 rfl ?_
            have eG : gWr X s' w = if y = ansV (sHow (xS X s')) (wVs w) then 0 else 1 := by
              unfold gWr wrg
              rw [hwr, decide_eq_true hle, Bool.true_and]
              show (if (!decide (((xR X)[r]?).map rSum = some (ansV (sHow (xS X s')) (wVs w)))) = true then 1 else 0) = _
              rw [hy]
              by_cases ey : y = ansV (sHow (xS X s')) (wVs w)
              · rw [if_pos ey, decide_eq_true (show Option.map rSum (some (false, s', ky, wB w, wE w, y)) = some _ from congrArg some ey)]
                rfl
              · rw [if_neg ey, decide_eq_false (show ¬ Option.map rSum (some (false, s', ky, wB w, wE w, y)) = some _ from fun z => ey (Option.some.inj z))]
                rfl
            rw [eG] at rest
            show V g mX10_apart (d + 2) 85 _ [.int (lg_cmp y (ansV (sHow (xS X s')) (wVs w))), _] _ Q
            by_cases ey : y = ansV (sHow (xS X s')) (wVs w)
            · rw [if_pos ey] at rest
              refine v_if_eq (t := 92) (q := 88) dX10_apart_85 (by decide) rfl (fun _ => ?_) (fun z => absurd ((lg_cmp_eq _ _).mpr ey) z)
              refine v_iconst (q := 93) (v := 0) dX10_apart_92 rfl (by decide) ?_
              exact rest v2 0 (hc.tr hv2) rfl
            · rw [if_neg ey] at rest
              refine v_if_eq (t := 92) (q := 88) dX10_apart_85 (by decide) rfl (fun z => absurd ((lg_cmp_eq _ _).mp z) ey) (fun _ => ?_)
              refine v_iconst (q := 89) (v := 1) dX10_apart_88 rfl (by decide) ?_
              refine v_goto (q := 93) dX10_apart_89 (by decide) ?_
              exact rest v2 1 (hc.tr hv2) rfl
      · refine v_icmp_ne (t := 95) (q := 43) dX10_apart_40 (by decide) rfl (fun _ => skip (if_neg e)) (fun z => absurd ((nI_eq (by omega) (by omega)).mp z) e)
theorem q_apart {s : Int32} (hm : MK h m) (hR : MR u X ws) (hS : SI X) (h16 : xM X ≤ 16) (hE : tot entS X ≤ 48000) (hr : (xR X).length < 200000) (hlen : ∀ s ky w es, some (s, ky, w, es) ∈ ws → es.length ≤ 12000)
    (hQ : ∀ v', Scr u v' → Q (some (.int (aApart X s))) (mh h m v')) : Call g mX10_apart (d + 2) [.ref m, .int s] (mh h m u) Q := by
  refine Call.of [.ref m, .int s, zz, zz] (by decide) (Nat.le_of_ble_eq_true rfl) rfl ?_
  refine v_ald0 (q := 1) dX10_apart_0 rfl rfl ?_
  refine v_ild1 (q := 2) dX10_apart_1 rfl ?_
  refine v_callV (q := 5) (d' := d + 1) (av := [.int s]) dX10_apart_2 rfl ok_X10_is CL9 ml_X10_134 im_X10_is se_X10_is hm.1 (by omega) rfl rfl (Nat.le_of_ble_eq_true rfl) ?_
  refine q_isS hm hR.1 h16 (fun j ej hj => ?_) (fun hi => ?_)
  · subst ej
    have eA : aApart X (nI j) = if isW (xS X j) then nI (wrgs (sHow (xS X j)) (gI (xS X j) 1) (xR X) (gL (xS X j)) 1000) else -2 := onS_in h16 hj
    rw [eA] at hQ
    refine v_if_ne (t := 10) (q := 8) dX10_apart_5 (by decide) rfl (fun _ => ?_) (fun z => absurd z (by decide))
    refine v_ald0 (q := 11) dX10_apart_10 rfl rfl ?_
    refine v_ild1 (q := 12) dX10_apart_11 rfl ?_
    refine v_callV (q := 15) (d' := d + 1) (av := [.int (nI j)]) dX10_apart_12 rfl ok_X10_isWindowed CL9 ml_X10_130 im_X10_isWindowed se_X10_isWindowed hm.1 (by omega) rfl rfl (Nat.le_of_ble_eq_true rfl) ?_
    refine q_isW hm hR.1 h16 hj ?_
    by_cases hW : isW (xS X j) = true
    · rw [if_pos hW] at hQ
      rw [if_pos hW]
      refine v_if_ne (t := 21) (q := 18) dX10_apart_15 (by decide) rfl (fun _ => ?_) (fun z => absurd z (by decide))
      refine v_iconst (q := 22) (v := 0) dX10_apart_21 rfl (by decide) ?_
      refine v_ist2 (q := 23) dX10_apart_22 rfl (by decide) rfl ?_
      refine v_iconst (q := 24) (v := 0) dX10_apart_23 rfl (by decide) ?_
      refine v_ist3 (q := 25) dX10_apart_24 rfl (by decide) rfl ?_
      refine ap_loop (d := d) hm hR hS h16 hj hW hE hr hlen ws.length 0 0 u (Nat.zero_add _) (Scr.rf u) (fun v' hv' => ?_)
      rw [List.drop_zero, Nat.zero_add]
      have e : (ws.map (wt j (gWr X j))).sum = wrgs (sHow (xS X j)) (gI (xS X j) 1) (xR X) (gL (xS X j)) 1000 := (sm_smG hR.2.2 hj hW (fun L => L.countP (wrg (sHow (xS X j)) (gI (xS X j) 1) (xR X))) (gWr X j) (fun L => wrg_smG _ _ _ L)).symm
      rw [e]
      exact hQ v' hv'
    · rw [if_neg hW] at hQ
      rw [if_neg hW]
      refine v_if_ne (t := 21) (q := 18) dX10_apart_15 (by decide) rfl (fun z => absurd rfl z) (fun _ => ?_)
      refine v_bipush (q := 20) (v := -2) dX10_apart_18 rfl (by decide) ?_
      refine v_iret dX10_apart_20 rfl ?_
      exact hQ u (Scr.rf u)
  · have eA : aApart X s = -1 := onS_out hi
    rw [eA] at hQ
    refine v_if_ne (t := 10) (q := 8) dX10_apart_5 (by decide) rfl (fun z => absurd rfl z) (fun _ => ?_)
    refine v_iconst (q := 9) (v := -1) dX10_apart_8 rfl (by decide) ?_
    refine v_iret dX10_apart_9 rfl ?_
    exact hQ u (Scr.rf u)
end LC0
