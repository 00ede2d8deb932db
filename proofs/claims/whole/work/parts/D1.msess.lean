/-! D1: the model: comeSession -/
theorem mxE_ge : ∀ (T : List Wd) (E : Int32), E.toInt ≤ (mxE T E).toInt := by
  intro T
  induction T with
  | nil => exact fun _ => Int.le_refl _
  | cons x T ih =>
    intro E
    show E.toInt ≤ (mxE T (if E < wE x then wE x else E)).toInt
    refine Int.le_trans ?_ (ih _)
    split
    · rename_i hz
      rw [fa_lt] at hz
      omega
    · exact Int.le_refl _
theorem sp_ses {S : Stg} (h : sSes S = true) : sSp S = gI S 6 + 1 := by
  unfold sSp spW
  exact if_pos (of_decide_eq_true h)
theorem map_flat {α : Type} (f : Nat → α) (l : List Nat) (g' : Nat → List Nat) : (l.flatMap g').map f = l.flatMap (fun k => (g' k).map f) := List.map_flatMap
section LD1
variable {g : Gl} {d : Nat} {h : Hp} {m : Nat} {Q : Option Value → Hp → Prop} {X : Sg} {ws : List (Option Mw)} {s ky : Nat}
theorem q_comeSession {u : Mu} {T : (Nat → List Wd) × List Rw × Nat} {mi : Int32} {va : Int64} (hm : MK h m) (hR : MR u (zS X s T) ws) (h16 : xM X ≤ 16) (hs : s < xM X) (hW : isW (xS X s) = true) (hses : sSes (xS X s) = true) (hO : stOK s (xS X s)) (hk : ky < 1000) (m0 : 0 ≤ mi.toInt) (m1 : mi.toInt ≤ 100000) (hI : LnI true s ky (sSp (xS X s)) (gI (xS X s) 1) T.2.1 (T.1 ky)) (hE : tot entS (zS X s T) + 1 ≤ 48000) (hr : T.2.1.length + cR (T.1 ky) + 1 < 200000) (hvn : vN (T.1 ky) + 1 ≤ 12000)
    (hQ : ∀ v' ws', MR v' (zS X s (enS true s (sHow (xS X s)) (sEa (xS X s)) (sSp (xS X s)) (gI (xS X s) 21) (gI (xS X s) 1) ky va T mi)) ws' → Q none (mh h m v')) :
    Call g mX10_comeSession (d + 4) [.ref m, .int (nI s), .int (nI ky), .int mi, .long va] (mh h m u) Q := by
  obtain ⟨hBd, o20, o22, o23, okd⟩ := hO
  obtain ⟨B1, B2, B3, B4, B5, B6, B7, B8, B9, B10, B11, B12⟩ := id hBd
  have hsp := sp_ses hses
  have hB : BdE (sSp (xS X s)) mi := ⟨B4, B5, by omega, m1, by omega⟩
  have rs := hR.1.2.2.1 s hs
  rw [zS_s] at rs
  have r4 : mI u 4 s = gI (xS X s) 6 := rs.1.2.1
  have r6 : mI u 6 s = gI (xS X s) 1 := rs.1.2.2.2.1
  have r11 : mI u 11 s = nI T.2.2 := rs.2.2.2.1.2.1
  have r12 : mI u 12 s = gI (xS X s) 20 := rs.2.2.2.1.2.2.1
  have r13 : mI u 13 s = gI (xS X s) 21 := rs.2.2.2.1.2.2.2.1
  have r14 : mI u 14 s = gI (xS X s) 22 := rs.2.2.2.1.2.2.2.2
  have hnw := mw_n hR.2.2 (by omega)
  have i1 : (1 : Int32).toInt = 1 := by decide
  have eS : mi + gI (xS X s) 6 + 1 = mi + sSp (xS X s) := by rw [hsp, Int32.add_assoc]
  have ea : (gI (xS X s) 6).toInt = (sSp (xS X s)).toInt - 1 := by
    have : gI (xS X s) 6 = sSp (xS X s) - 1 := by rw [hsp, Int32.add_sub_cancel]
    rw [this, Int32.toInt_sub, i1]
    exact Int.bmod_eq_of_le (by omega) (by omega)
  have eE : (mi + sSp (xS X s)).toInt = mi.toInt + (sSp (xS X s)).toInt := i32_add (by omega) (by omega)
  refine Call.of [.ref m, .int (nI s), .int (nI ky), .int mi, .long va, zz, zz, zz, zz, zz, zz, zz, zz] (by decide) (Nat.le_of_ble_eq_true rfl) rfl ?_
  refine v_ild3 (q := 1) dX10_comeSession_0 rfl ?_
  refine v_ald0 (q := 2) dX10_comeSession_1 rfl rfl ?_
  refine w_ga (q := 5) (j := 4) dX10_comeSession_2 rfl hm (by decide) gf_X10_20_9 ?_
  refine v_ild1 (q := 6) dX10_comeSession_5 rfl ?_
  refine w_iald (q := 7) (n := 16) dX10_comeSession_6 rfl hm (by decide) rfl rfl rfl (by omega) ?_
  rw [r4]
  refine v_iadd (q := 8) dX10_comeSession_7 rfl ?_
  refine v_iconst (q := 9) (v := 1) dX10_comeSession_8 rfl (by decide) ?_
  refine v_iadd (q := 10) dX10_comeSession_9 rfl ?_
  rw [eS]
  refine v_ald0 (q := 11) dX10_comeSession_10 rfl rfl ?_
  refine w_ga (q := 14) (j := 13) dX10_comeSession_11 rfl hm (by decide) gf_X10_47_9 ?_
  refine v_ild1 (q := 15) dX10_comeSession_14 rfl ?_
  refine w_iald (q := 16) (n := 16) dX10_comeSession_15 rfl hm (by decide) rfl rfl rfl (by omega) ?_
  rw [r13]
  refine v_iadd (q := 17) dX10_comeSession_16 rfl ?_
  refine v_ald0 (q := 18) dX10_comeSession_17 rfl rfl ?_
  refine w_ga (q := 21) (j := 6) dX10_comeSession_18 rfl hm (by decide) gf_X10_26_9 ?_
  refine v_ild1 (q := 22) dX10_comeSession_21 rfl ?_
  refine w_iald (q := 23) (n := 16) dX10_comeSession_22 rfl hm (by decide) rfl rfl rfl (by omega) ?_
  rw [r6]
  by_cases hdr : mi + sSp (xS X s) + gI (xS X s) 21 ≤ gI (xS X s) 1
  · have eEn : enS true s (sHow (xS X s)) (sEa (xS X s)) (sSp (xS X s)) (gI (xS X s) 21) (gI (xS X s) 1) ky va T mi = (T.1, T.2.1, T.2.2 + 1) := if_pos hdr
    rw [eEn] at hQ
    refine v_icmp_gt (t := 37) (q := 26) dX10_comeSession_23 (by decide) rfl (fun z => absurd hdr (Int32.not_le.mpr z)) (fun _ => ?_)
    refine v_ald0 (q := 27) dX10_comeSession_26 rfl rfl ?_
    refine w_ga (q := 30) (j := 11) dX10_comeSession_27 rfl hm (by decide) gf_X10_41_9 ?_
    refine v_ild1 (q := 31) dX10_comeSession_30 rfl ?_
    refine v_dup2 (q := 32) dX10_comeSession_31 rfl rfl rfl ?_
    refine w_iald (q := 33) (n := 16) dX10_comeSession_32 rfl hm (by decide) rfl rfl rfl (by omega) ?_
    refine v_iconst (q := 34) (v := 1) dX10_comeSession_33 rfl (by decide) ?_
    refine v_iadd (q := 35) dX10_comeSession_34 rfl ?_
    refine w_iast (q := 36) (n := 16) dX10_comeSession_35 rfl hm (by decide) rfl rfl rfl (by omega) ?_
    rw [r11, show nI T.2.2 + 1 = nI (T.2.2 + 1) from nI_1 _]
    refine v_vret dX10_comeSession_36 rfl ?_
    refine hQ _ ws ?_
    rw [zS_cf X s T]
    refine ⟨hR.1.set ⟨rfl, rfl⟩ (fun j h1 h2 h3 i hi => ?_) (fun t ht f hf => rfl) (fun i hi => rfl) rfl rfl hs ?_, hR.2.1.same (fun j h1 h2 => mI_nr _ (by omega)) rfl rfl, hR.2.2.cfg hs (fun j h1 h2 => mI_nr _ (by omega)) rfl rfl rfl ?_ ?_ ?_⟩
    · by_cases e : j = 11
      · subst e
        exact mI_ni _ hi
      · rw [mI_nr _ e]
    · obtain ⟨⟨a1, a2, a3, a4, a5⟩, b', c, ⟨d1, d2, d3, d4, d5⟩, e1, e2, e3, e4⟩ := rs
      exact ⟨⟨a1, a2, a3, a4, a5⟩, b', c, ⟨d1, mI_at _ _ _, d3, d4, d5⟩, e1, e2, e3, e4⟩
    · rw [zS_s]; rfl
    · rw [zS_s]; exact ⟨rfl, rfl⟩
    · rw [zS_s]; rfl
  refine v_icmp_gt (t := 37) (q := 26) dX10_comeSession_23 (by decide) rfl (fun _ => ?_) (fun z => absurd (Int32.not_le.mp hdr) z)
  have eEn : enS true s (sHow (xS X s)) (sEa (xS X s)) (sSp (xS X s)) (gI (xS X s) 21) (gI (xS X s) 1) ky va T mi = (upR T.1 ky (entLn true s ky (sHow (xS X s)) (sEa (xS X s)) (gI (xS X s) 1) mi (mi + sSp (xS X s)) va (T.1 ky) T.2.1), (entW true s ky (sHow (xS X s)) (sEa (xS X s)) (gI (xS X s) 1) mi (mi + sSp (xS X s)) va (T.1 ky) T.2.1).2, T.2.2) := if_neg hdr
  rw [eEn] at hQ
  have hnd : (gI (xS X s) 1).toInt < mi.toInt + (sSp (xS X s)).toInt + (gI (xS X s) 21).toInt := by
    rw [fa_le, i32_add (by rw [eE]; omega) (by rw [eE]; omega), eE] at hdr
    omega
  obtain ⟨n1, _⟩ := ent_cnt (how := sHow (xS X s)) (ea := sEa (xS X s)) (v := va) (sty := (gI (xS X s) 21).toInt + (sSp (xS X s)).toInt - 1) hI hB (by omega) (fun _ => by omega)
  obtain ⟨x1, x2, x3, x4, x5, x6, x7, hrowX⟩ := ent_x (v := va) hI hB
  obtain ⟨ne, f1, f2, f3, f4⟩ := hR.2.2.2.2.2.2.1
  have hcfS : CF (xS X s) (stT (xS X s) T.1 T.2.2) := ⟨fun j h1 h2 => by
    show upR (upR (gI (xS X s)) 4 _) 23 _ j = _
    rw [upR_ne _ _ h2, upR_ne _ _ h1], rfl, rfl⟩
  have cfs := hcfS.sty
  have hsty : sSty (xS (zS X s T) s) = (gI (xS X s) 21).toInt + (sSp (xS X s)).toInt - 1 := by
    rw [zS_s, cfs.1]
    unfold sSty styI
    rw [if_pos hses]
    omega
  have hmk1 : gI (xS (zS X s T) s) 1 = gI (xS X s) 1 := by rw [zS_s]; rfl
  have eHow : sHow (xS (zS X s T) s) = sHow (xS X s) := by rw [zS_s]; exact cfs.2.2.2.2.2.1
  have eEa : sEa (xS (zS X s T) s) = sEa (xS X s) := by rw [zS_s]; exact cfs.2.2.2.2.2.2.1
  have hWz : isW (xS (zS X s T) s) = true := by rw [zS_s, cfs.2.2.1]; exact hW
  have hgLz : gL (xS (zS X s T) s) = T.1 := by rw [zS_s]; rfl
  obtain ⟨hfT, hfN⟩ := ent_near hI hB
  have hpL := hR.2.2.2.2.2.1 s hs hWz ky hk
  rw [hgLz] at hpL
  have inL' : ∀ w es, some (s, ky, w, es) ∈ ws → w ∈ T.1 ky := fun w es hx => by
    have := mw_lane hR.2.2 hx
    rw [hgLz] at this
    exact this
  refine v_iconst (q := 38) (v := 0) dX10_comeSession_37 rfl (by decide) ?_
  refine v_ist6 (q := 40) dX10_comeSession_38 rfl (by decide) rfl ?_
  refine v_iconst (q := 41) (v := 0) dX10_comeSession_40 rfl (by decide) ?_
  refine v_ist7 (q := 43) dX10_comeSession_41 rfl (by decide) rfl ?_
  refine cs_find (d := d) (X := zS X s T) (P := nrB mi (sSp (xS X s))) (a := gI (xS X s) 6) hm hR h16 (by omega) hk hnw r4 (fun w es hx => ?_) ws.length 0 u [] (Nat.zero_add _) (Scr.rf u) (fun i k hi => by cases hi) List.Pairwise.nil (List.Perm.refl _) (fun v l hc hF hSo hp => ?_)
  · have hb := hI.1 w (inL' w es hx)
    have e1 : (wB w - gI (xS X s) 6).toInt = (wB w).toInt - (gI (xS X s) 6).toInt := by
      rw [Int32.toInt_sub]
      exact Int.bmod_eq_of_le (by omega) (by omega)
    have e2 : (wE w - 1).toInt = (wE w).toInt - 1 := by
      rw [Int32.toInt_sub, i1]
      exact Int.bmod_eq_of_le (by omega) (by omega)
    rw [hsty, hmk1, fa_le, fa_le, e1, e2]
    unfold nrB thr
    rw [decide_eq_true_iff, decide_eq_true_iff]
    omega
  -- the near windows, in order
  have hln : l.Nodup := hp.nodup_iff.mpr (List.Pairwise.filter _ List.nodup_range)
  have hD : ∀ k ∈ l, k < ws.length ∧ ∃ w es, ws[k]? = some (some (s, ky, w, es)) ∧ nrB mi (sSp (xS X s)) w = true := fun k hkl => neL_D (hp.mem_iff.mp hkl) (Nat.le_refl _)
  have hll : l.length ≤ ws.length := by rw [hp.length_eq]; exact neL_len _ _ _ _ _
  have hTl : l.map (fun k => (gt ws k).2) = entT true mi (mi + sSp (xS X s)) (T.1 ky) := by
    have p1 : (l.map (fun k => (gt ws k).2)).Perm (entT true mi (mi + sSp (xS X s)) (T.1 ky)) := by
      refine (hp.map _).trans ?_
      rw [neL_win, ← hfT]
      exact hpL.filter _
    refine sorted_uniq (k := fun w => (wB w).toInt) p1 ?_ ?_
    · rw [List.pairwise_map]
      refine hSo.imp_of_mem (fun {x y} hx hy hxy => ?_)
      obtain ⟨_, wx, ex, hwx, _⟩ := hD x hx
      obtain ⟨_, wy, ey, hwy, _⟩ := hD y hy
      rw [gt_at hwx, gt_at hwy]
      unfold bgK at hxy
      rw [(hR.2.2.2.1 x _ hwx).2.2.1, (hR.2.2.2.1 y _ hwy).2.2.1] at hxy
      exact hxy
    · rw [← hfT]
      exact (hI.2.imp (fun h => h.1)).filter _
  have hJw : (l.map (nwK ws)).map (·.2.1) = entT true mi (mi + sSp (xS X s)) (T.1 ky) := by
    rw [List.map_map, ← hTl]
    rfl
  have hJk : (l.map (nwK ws)).map (·.1) = l := by
    rw [List.map_map]
    exact List.map_id l
  have hJe : (l.map (nwK ws)).flatMap (·.2.2) = l.flatMap (esK ws) := by
    rw [List.flatMap_map]
    rfl
  have hJp : (l.flatMap (esK ws)).Perm (neE s ky (nrB mi (sSp (xS X s))) ws) := by
    rw [← neL_ent]
    exact hp.flatMap_right _
  have hbk : (bksL s ky T.2.1 (entT true mi (mi + sSp (xS X s)) (T.1 ky))).length ≤ cR (T.1 ky) := by
    rw [bksL_len (fun x hx => (hI.1 x (by rw [← hfT] at hx; exact (List.mem_filter.mp hx).1)).2.1), ← hfT]
    unfold cR
    exact (List.filter_sublist).countP_le
  have hJok : ∀ j ∈ l.map (nwK ws), NwOK u (zS X s T) s ky ws.length T.2.1 j := fun j hj => by
    obtain ⟨k, hkl, rfl⟩ := List.mem_map.mp hj
    obtain ⟨h1, w, es, hw, _⟩ := hD k hkl
    have e2 : esK ws k = es := by
      unfold esK
      rw [hw]
      rfl
    unfold NwOK nwK
    rw [gt_at hw, e2]
    have hx := List.mem_of_getElem? hw
    exact ⟨h1, hR.2.2.2.1 k _ hw, (hI.1 w (inL' w es hx)).2.1, mw_es hR.2.2 (by omega) hx⟩
  have hnd0 : (neE s ky (nrB mi (sSp (xS X s))) ws).Nodup := by
    have := (alE_un (ws := ws) (s := s) (ky := ky) (P := nrB mi (sSp (xS X s)))).nodup_iff.mp hR.2.2.2.2.2.2.2
    exact (List.nodup_append.mp this).2.1
  refine v_iconst (q := 201) (v := 0) dX10_comeSession_200 rfl (by decide) ?_
  refine v_ist7 (q := 203) dX10_comeSession_201 rfl (by decide) rfl ?_
  refine v_ald0 (q := 204) dX10_comeSession_203 rfl rfl ?_
  refine v_ild1 (q := 205) dX10_comeSession_204 rfl ?_
  refine v_ild2 (q := 206) dX10_comeSession_205 rfl ?_
  refine v_ild3 (q := 207) dX10_comeSession_206 rfl ?_
  refine v_ild3 (q := 208) dX10_comeSession_207 rfl ?_
  refine v_ald0 (q := 209) dX10_comeSession_208 rfl rfl ?_
  refine w_ga (q := 212) (j := 4) dX10_comeSession_209 rfl hm (by decide) gf_X10_20_9 ?_
  refine v_ild1 (q := 213) dX10_comeSession_212 rfl ?_
  refine w_iald (q := 214) (n := 16) dX10_comeSession_213 rfl hm (by decide) rfl rfl rfl (by omega) ?_
  rw [hc.1 4 (by decide), r4]
  refine v_iadd (q := 215) dX10_comeSession_214 rfl ?_
  refine v_iconst (q := 216) (v := 1) dX10_comeSession_215 rfl (by decide) ?_
  refine v_iadd (q := 217) dX10_comeSession_216 rfl ?_
  rw [eS]
  refine v_callV (q := 220) (d' := d + 3) (av := [.int (nI s), .int (nI ky), .int mi, .int (mi + sSp (xS X s))]) dX10_comeSession_217 rfl ok_X10_newWindow CL9 ml_X10_182 im_X10_newWindow se_X10_newWindow hm.1 (by omega) rfl rfl (Nat.le_of_ble_eq_true rfl) ?_
  refine q_newWindow (n := ws.length) hm hnw (by rw [hc.2.2]; exact hR.2.2.1) (fun u1 n1' => ?_)
  obtain ⟨⟨k1, k2, k3, k4, k5, k6, k7, k8⟩, kj, kL, k88, kF⟩ := n1'
  refine v_ist8 (q := 222) dX10_comeSession_220 rfl (by decide) rfl ?_
  refine v_iconst (q := 223) (v := 0) dX10_comeSession_222 rfl (by decide) ?_
  refine v_ist9 (q := 225) dX10_comeSession_223 rfl (by decide) rfl ?_
  have hJ0 : JI u u1 s ky ws.length T.2.1 l [] mi (mi + sSp (xS X s)) [] := by
    refine ⟨?_, ⟨by rw [k1, upR_at], by rw [k2, upR_at], by rw [k3, upR_at], by rw [k4, upR_at], by rw [k5, upR_at], by rw [k6, upR_at], by rw [k8, upR_at]; rfl, by rw [k7, upR_at]; rfl⟩, List.Perm.refl _, fun j _ hjn r h1 h2 => ?_, fun j hj => (by cases hj), fun i _ => by rw [kj 28 (by decide), hc.1 28 (by decide)], ⟨by rw [kL, hc.2.1 27 (by decide)], by rw [kL, hc.2.1 18 (by decide)], fun j hj => by rw [kj j (by omega), hc.1 j (by omega)]⟩, ⟨by rw [kF 78 (by decide), hc.2.2], by rw [kF 79 (by decide), hc.2.2], by rw [kF 91 (by decide), hc.2.2], k88⟩, fun a y ha => by rw [kj 36 (by decide)]; exact hF a y ha⟩
    · show MRr u1 (T.2.1 ++ [])
      rw [List.append_nil]
      exact (hR.2.1.scr hc).same (fun j h1 h2 => kj j (by omega)) (by rw [kL]) (kF 98 (by decide))
    · have : r = 19 ∨ r = 20 ∨ r = 21 ∨ r = 22 ∨ r = 23 ∨ r = 24 ∨ r = 25 ∨ r = 26 := by omega
      rcases this with e | e | e | e | e | e | e | e <;> subst e
      · rw [k1, upR_ne _ _ hjn, hc.1 19 (by decide)]
      · rw [k2, upR_ne _ _ hjn, hc.1 20 (by decide)]
      · rw [k3, upR_ne _ _ hjn, hc.1 21 (by decide)]
      · rw [k4, upR_ne _ _ hjn, hc.1 22 (by decide)]
      · rw [k5, upR_ne _ _ hjn, hc.1 23 (by decide)]
      · rw [k6, upR_ne _ _ hjn, hc.1 24 (by decide)]
      · rw [k7, upR_ne _ _ hjn, hc.1 25 (by decide)]
      · rw [k8, upR_ne _ _ hjn, hc.1 26 (by decide)]
  refine cs_loop (d := d) (X := zS X s T) hm hnw (by omega) hln (l.map (nwK ws)) [] mi (mi + sSp (xS X s)) [] u1 hJ0 (by rw [List.nil_append, hJk]) hJok (by rw [List.append_nil, hJe]; exact hJp.nodup_iff.mpr hnd0) (by rw [List.nil_append, hJw, List.length_append]; omega) (fun v1 ds hJ => ?_)
  rw [List.nil_append, hJw] at hJ
  obtain ⟨j1, ⟨w19, w20, w21, w22, w23, w24, w26, wL⟩, j3, j4, j5, j6, ⟨jL27, jL18, j18⟩, ⟨g78, g79, g91, g88⟩, jF⟩ := hJ
  rw [hJw] at j1
  rw [hJe] at j3
  rw [hJk] at j4 j5
  rw [List.nil_append, hJw]
  obtain ⟨ex1, ex2, ex3, ex4⟩ := entX_ses mi (mi + sSp (xS X s)) va (entT true mi (mi + sSp (xS X s)) (T.1 ky))
  have hdsP := j3.trans hJp
  have hdsN : ∀ i ∈ ds, i < ne := fun i hi => f4 i ((alE_un (ws := ws) (s := s) (ky := ky) (P := nrB mi (sSp (xS X s)))).mem_iff.mpr (List.mem_append_right _ (hdsP.mem_iff.mp hi)))
  have hvals : (ds.map (mL u 27)).Perm ((entT true mi (mi + sSp (xS X s)) (T.1 ky)).flatMap wVs) := by
    refine (j3.map _).trans ?_
    rw [map_flat, ← hTl, List.flatMap_map]
    refine flat_perm l (fun k hkl => ?_)
    obtain ⟨_, w, es, hw, _⟩ := hD k hkl
    have e2 : esK ws k = es := by
      unfold esK
      rw [hw]
      rfl
    show ((esK ws k).map (mL u 27)).Perm (wVs (gt ws k).2)
    rw [e2, gt_at hw]
    exact (hR.2.2.2.1 k _ hw).2.2.2.2.2.2.2.2
  have hdl : ds.length + 1 ≤ 12000 := by
    have h1 := hvals.length_eq
    rw [List.length_map] at h1
    have h2 : ((entT true mi (mi + sSp (xS X s)) (T.1 ky)).flatMap wVs).length = vN (entT true mi (mi + sSp (xS X s)) (T.1 ky)) := by
      generalize entT true mi (mi + sSp (xS X s)) (T.1 ky) = Z
      induction Z with
      | nil => rfl
      | cons z Z ih => rw [List.flatMap_cons, List.length_append, ih, vN_cons]
    have h3 : vN (entT true mi (mi + sSp (xS X s)) (T.1 ky)) ≤ vN (T.1 ky) := by
      have hspl := ent_split true mi (mi + sSp (xS X s)) (T.1 ky)
      have : vN (T.1 ky) = vN (entA true mi (mi + sSp (xS X s)) (T.1 ky)) + (vN (entT true mi (mi + sSp (xS X s)) (T.1 ky)) + vN (entB true mi (mi + sSp (xS X s)) (T.1 ky))) := by
        rw [← vN_app, ← vN_app, ← hspl]
      omega
    omega
  have hthr : thr (sSty (xS (zS X s T) s)) (gI (xS (zS X s T) s) 1) (entX true mi (mi + sSp (xS X s)) va (entT true mi (mi + sSp (xS X s)) (T.1 ky))) = true := by
    unfold thr
    rw [hsty, hmk1, ex2]
    have := mxE_ge (entT true mi (mi + sSp (xS X s)) (T.1 ky)) (mi + sSp (xS X s))
    exact decide_eq_true (by omega)
  refine v_ald0 (q := 438) dX10_comeSession_437 rfl rfl ?_
  refine v_ild8 (q := 440) dX10_comeSession_438 rfl ?_
  refine v_lld4 (q := 442) dX10_comeSession_440 rfl ?_
  refine v_callV (q := 445) (d' := d + 3) (av := [.int (nI ws.length), .long va]) dX10_comeSession_442 rfl ok_X10_addEvent CL9 ml_X10_186 im_X10_addEvent se_X10_addEvent hm.1 (by omega) rfl rfl (Nat.le_of_ble_eq_true rfl) ?_
  refine q_addEvent (ne := ne) hm hnw (by omega) (by rw [g91]; exact f1) (fun v2 a2 => ?_)
  obtain ⟨⟨c25, c26, c28⟩, cj, cL27, cLj, c91, cF⟩ := a2
  have hck28 : ∀ i, i < ne → i ∉ ds → mI v2 28 i = mI u 28 i := fun i hi hd => by
    rw [c28, upR_ne _ _ (by omega)]
    exact j6 i hd
  have hck27 : ∀ i, i < ne → mL v2 27 i = mL u 27 i := fun i hi => by
    rw [cL27, upR_ne _ _ (by omega), jL27]
  have hLK2 : LK (mI v2 28) (nI ne) (ne :: ds) := by
    refine ⟨rfl, ?_⟩
    rw [c28, upR_at]
    exact wL.on (fun i hi => upR_ne _ _ (by have := hdsN i hi; omega))
  have hvs2 : ((ne :: ds).map (mL v2 27)).Perm (wVs (entX true mi (mi + sSp (xS X s)) va (entT true mi (mi + sSp (xS X s)) (T.1 ky)))) := by
    rw [ex4, List.map_cons, cL27, upR_at]
    refine List.Perm.cons va ?_
    have e : ds.map (upR (mL v1 27) ne va) = ds.map (mL u 27) := List.map_congr_left (fun i hi => by rw [upR_ne _ _ (by have := hdsN i hi; omega), jL27])
    rw [e]
    exact hvals
  have hr2 : MRr v2 (T.2.1 ++ bksL s ky T.2.1 (entT true mi (mi + sSp (xS X s)) (T.1 ky))) := j1.same (fun j h1 h2 => cj j (by omega) (by omega) (by omega)) (cLj 34 (by decide)) (cF 98 (by decide))
  have hspl := ent_split true mi (mi + sSp (xS X s)) (T.1 ky)
  -- from the place where the window is
  have fin : ∀ (v3 : Mu) (k : Nat) (P0 N R : List (Option Mw)), k < 48100 → unN s ky (nrB mi (sSp (xS X s))) ws = P0 ++ (N ++ R) → P0.length = k → ((N = [] ∧ R = []) ∨ N = [none]) → (∀ r, 19 ≤ r → r ≤ 26 → mI v3 r k = mI v2 r ws.length) → (∀ r, 19 ≤ r → r ≤ 26 → ∀ j, j ≠ k → mI v3 r j = mI v2 r j) → (∀ j, j < 19 ∨ 26 < j → mI v3 j = mI v2 j) → mL v3 = mL v2 → (∀ f, f ≠ 88 → mF v3 f = mF v2 f) → mF v3 88 = nI (P0.length + 1 + R.length) → (k = ws.length ∨ k ∈ l) → V g mX10_comeSession (d + 4) 480 [.ref m, .int (nI s), .int (nI ky), .int mi, .long va, zz, .int (nI l.length), .int (tkM s ky T.2.1 (entT true mi (mi + sSp (xS X s)) (T.1 ky))), .int (nI k), zz, zz, zz, zz] [] (mh h m v3) Q := fun v3 k P0 N R hk48 hun hP0 hN t1 t2 t3 tL tF t88 hkl => by
    have e18 : ∀ j, j ≤ 18 → mI v3 j = mI u j := fun j hj => by rw [t3 j (by omega), cj j (by omega) (by omega) (by omega), j18 j hj]
    have hMk : MWk v3 (zS X s T) k (some (s, ky, entX true mi (mi + sSp (xS X s)) va (entT true mi (mi + sSp (xS X s)) (T.1 ky)), ne :: ds)) := by
      refine ⟨by rw [t1 19 (by decide) (by decide), cj 19 (by decide) (by decide) (by decide)]; exact w19, by rw [t1 20 (by decide) (by decide), cj 20 (by decide) (by decide) (by decide)]; exact w20, by rw [t1 21 (by decide) (by decide), cj 21 (by decide) (by decide) (by decide), ex1]; exact w21, by rw [t1 22 (by decide) (by decide), cj 22 (by decide) (by decide) (by decide), ex2]; exact w22, ?_, by rw [t1 24 (by decide) (by decide), cj 24 (by decide) (by decide) (by decide), ex3]; exact w24, ?_, ?_, ?_⟩
      · rw [t1 23 (by decide) (by decide), cj 23 (by decide) (by decide) (by decide), w23, if_pos hthr]
      · rw [t1 26 (by decide) (by decide), c26, upR_at, w26, show nI ds.length + 1 = nI (ds.length + 1) from nI_1 _]
        rfl
      · rw [t3 28 (by decide), t1 25 (by decide) (by decide), c25, upR_at]
        exact hLK2
      · rw [tL]
        exact hvs2
    have hr3 := hr2.same (u' := v3) (fun j h1 h2 => t3 j (by omega)) (by rw [tL]) (tF 98 (by decide))
    refine cs_give (d := d) (X := zS X s T) hm hk48 (by omega) hMk (by rw [e18 6 (by decide), r6, hmk1]) (by rw [e18 14 (by decide), r14, o22, eEa]) (by rw [eEa]; exact B3) (by rw [e18 12 (by decide), r12, o20, eHow]) (by rw [eHow]; exact B2) (fun i hi => ?_) (by rw [List.length_cons]; exact hdl) x1 hr3 (by rw [List.length_append]; omega) hrowX (fun v4 g4 r4' z4 => ?_)
    · rcases List.mem_cons.mp hi with e | hi
      · omega
      · have := hdsN i hi
        omega
    rw [eHow, eEa, hmk1] at r4' z4
    have hG : (entG true s ky T.2.1 (entT true mi (mi + sSp (xS X s)) (T.1 ky)) (gI (xS X s) 1) (sEa (xS X s)) (entX true mi (mi + sSp (xS X s)) va (entT true mi (mi + sSp (xS X s)) (T.1 ky))) = true) ↔ (tkM s ky T.2.1 (entT true mi (mi + sSp (xS X s)) (T.1 ky)) ≠ 0 ∨ wE (entX true mi (mi + sSp (xS X s)) va (entT true mi (mi + sSp (xS X s)) (T.1 ky))) ≤ gI (xS X s) 1 ∨ (0 < sEa (xS X s) ∧ (wVs (entX true mi (mi + sSp (xS X s)) va (entT true mi (mi + sSp (xS X s)) (T.1 ky)))).length % sEa (xS X s) = 0)) := by
      have e0 : tkM s ky T.2.1 (entT true mi (mi + sSp (xS X s)) (T.1 ky)) ≠ 0 ↔ (bksL s ky T.2.1 (entT true mi (mi + sSp (xS X s)) (T.1 ky))).length ≠ 0 := by
        unfold tkM
        by_cases h0 : (bksL s ky T.2.1 (entT true mi (mi + sSp (xS X s)) (T.1 ky))).length = 0
        · rw [if_pos h0]
          exact ⟨fun z => absurd rfl z, fun z => absurd h0 z⟩
        · rw [if_neg h0]
          exact ⟨fun _ => h0, fun _ => by decide⟩
      unfold entG
      rw [decide_eq_true_iff, e0]
      exact ⟨fun z => z.elim (fun z => Or.inl z.2) Or.inr, fun z => z.elim (fun z => Or.inl ⟨rfl, z⟩) Or.inr⟩
    have eW : entW true s ky (sHow (xS X s)) (sEa (xS X s)) (gI (xS X s) 1) mi (mi + sSp (xS X s)) va (T.1 ky) T.2.1 = finW s ky (sHow (xS X s)) (tkM s ky T.2.1 (entT true mi (mi + sSp (xS X s)) (T.1 ky)) ≠ 0 ∨ wE (entX true mi (mi + sSp (xS X s)) va (entT true mi (mi + sSp (xS X s)) (T.1 ky))) ≤ gI (xS X s) 1 ∨ (0 < sEa (xS X s) ∧ (wVs (entX true mi (mi + sSp (xS X s)) va (entT true mi (mi + sSp (xS X s)) (T.1 ky)))).length % sEa (xS X s) = 0)) (T.2.1 ++ bksL s ky T.2.1 (entT true mi (mi + sSp (xS X s)) (T.1 ky))) (entX true mi (mi + sSp (xS X s)) va (entT true mi (mi + sSp (xS X s)) (T.1 ky))) := by
      unfold entW
      rw [finW_iff hG]
      rfl
    rw [← eW] at r4' z4
    obtain ⟨y1, y2, y3, y4, y5, y6, y7⟩ := finW_p (how := sHow (xS X s)) (gv := tkM s ky T.2.1 (entT true mi (mi + sSp (xS X s)) (T.1 ky)) ≠ 0 ∨ wE (entX true mi (mi + sSp (xS X s)) va (entT true mi (mi + sSp (xS X s)) (T.1 ky))) ≤ gI (xS X s) 1 ∨ (0 < sEa (xS X s) ∧ (wVs (entX true mi (mi + sSp (xS X s)) va (entT true mi (mi + sSp (xS X s)) (T.1 ky)))).length % sEa (xS X s) = 0)) hrowX
    have y1' : wB (entW true s ky (sHow (xS X s)) (sEa (xS X s)) (gI (xS X s) 1) mi (mi + sSp (xS X s)) va (T.1 ky) T.2.1).1 = _ := (congrArg (fun z => wB z.1) eW).trans y1
    have y2' : wE (entW true s ky (sHow (xS X s)) (sEa (xS X s)) (gI (xS X s) 1) mi (mi + sSp (xS X s)) va (T.1 ky) T.2.1).1 = _ := (congrArg (fun z => wE z.1) eW).trans y2
    have y3' : wVs (entW true s ky (sHow (xS X s)) (sEa (xS X s)) (gI (xS X s) 1) mi (mi + sSp (xS X s)) va (T.1 ky) T.2.1).1 = _ := (congrArg (fun z => wVs z.1) eW).trans y3
    have hMk4 : MWk v4 (zS X s T) k (some (s, ky, (entW true s ky (sHow (xS X s)) (sEa (xS X s)) (gI (xS X s) 1) mi (mi + sSp (xS X s)) va (T.1 ky) T.2.1).1, ne :: ds)) := by
      obtain ⟨z1, z2, z3, z4', z5, z6, z7, z8, z9⟩ := hMk
      refine ⟨by rw [g4.1 19 (by decide) (by decide)]; exact z1, by rw [g4.1 20 (by decide) (by decide)]; exact z2, by rw [g4.1 21 (by decide) (by decide), y1']; exact z3, by rw [g4.1 22 (by decide) (by decide), y2']; exact z4', ?_, z4, by rw [g4.1 26 (by decide) (by decide)]; exact z7, ?_, ?_⟩
      · rw [g4.1 23 (by decide) (by decide), z5]
        unfold thr
        rw [y2']
      · rw [g4.1 28 (by decide) (by decide), g4.1 25 (by decide) (by decide)]
        exact z8
      · rw [g4.2.2.1 27 (by decide) (by decide), y3']
        exact z9
    have gr : ∀ r, 19 ≤ r → r ≤ 26 → ∀ j, j ≠ k → mI v4 r j = mI v2 r j := fun r h1 h2 j hj => ((g4.ef (ne := ne)).1 r h1 h2 j hj).trans (t2 r h1 h2 j hj)
    have g18 : ∀ j, j ≤ 18 → mI v4 j = mI u j := fun j hj => (g4.1 j (by omega) (by omega)).trans (e18 j hj)
    have gL18 : mL v4 18 = mL u 18 := by rw [g4.2.2.1 18 (by decide) (by decide), tL, cLj 18 (by decide), jL18]
    refine hQ v4 (P0 ++ some (s, ky, (entW true s ky (sHow (xS X s)) (sEa (xS X s)) (gI (xS X s) 1) mi (mi + sSp (xS X s)) va (T.1 ky) T.2.1).1, ne :: ds) :: R) ?_
    refine MR.join (Y := zS X s T) (P := nrB mi (sSp (xS X s))) (S' := stT (xS X s) (upR T.1 ky (entLn true s ky (sHow (xS X s)) (sEa (xS X s)) (gI (xS X s) 1) mi (mi + sSp (xS X s)) va (T.1 ky) T.2.1)) T.2.2) (A := entA true mi (mi + sSp (xS X s)) (T.1 ky)) (B := entB true mi (mi + sSp (xS X s)) (T.1 ky)) (l := l) hR hs hWz hk f1 f2 f4 f3 (by rw [hgLz]; exact hfN) hp hdsP hun hP0 hN (zS_cf X s T _) ?_ (by rw [hgLz]; rfl) ?_ (fun j hj hjl r h1 h2 => ?_) (fun j hj hjk => ?_) (fun i hi hd => ?_) (fun i hi => ?_) g18 gL18 ⟨?_, ?_⟩ ?_ ?_ ?_ r4' hMk4
    · rw [zS_s]
      exact ⟨fun _ _ _ => rfl, rfl, rfl⟩
    · have t1' := tot_set entS (zS X s T) (s := s) hs (stT (xS X s) (upR T.1 ky (entLn true s ky (sHow (xS X s)) (sEa (xS X s)) (gI (xS X s) 1) mi (mi + sSp (xS X s)) va (T.1 ky) T.2.1)) T.2.2) (entW true s ky (sHow (xS X s)) (sEa (xS X s)) (gI (xS X s) 1) mi (mi + sSp (xS X s)) va (T.1 ky) T.2.1).2
      have t2' := sm_upd vN T.1 hk (entLn true s ky (sHow (xS X s)) (sEa (xS X s)) (gI (xS X s) 1) mi (mi + sSp (xS X s)) va (T.1 ky) T.2.1)
      rw [zS_s] at t1'
      have e1 : entS (stT (xS X s) (upR T.1 ky (entLn true s ky (sHow (xS X s)) (sEa (xS X s)) (gI (xS X s) 1) mi (mi + sSp (xS X s)) va (T.1 ky) T.2.1)) T.2.2) = sm vN (upR T.1 ky (entLn true s ky (sHow (xS X s)) (sEa (xS X s)) (gI (xS X s) 1) mi (mi + sSp (xS X s)) va (T.1 ky) T.2.1)) := if_pos hW
      have e2 : entS (stT (xS X s) T.1 T.2.2) = sm vN T.1 := if_pos hW
      have e3 : ∀ (l' : Nat → List Wd) (r' : List Rw), tot entS (zS X s (l', r', T.2.2)) = tot entS (xSet (zS X s T) s (stT (xS X s) l' T.2.2) r') := fun l' r' => congrArg (tot entS) (zS_cf X s T _)
      rw [e3]
      omega
    · have hjk : j ≠ k := fun e => by
        rcases hkl with z | z
        · omega
        · exact hjl (e ▸ z)
      rw [gr r h1 h2 j hjk]
      have : mI v2 r j = mI v1 r j := by
        by_cases e25 : r = 25
        · subst e25
          rw [c25, upR_ne _ _ (by omega)]
        · by_cases e26 : r = 26
          · subst e26
            rw [c26, upR_ne _ _ (by omega)]
          · rw [cj r e25 e26 (by omega)]
      rw [this]
      exact j4 j hjl (by omega) r h1 h2
    · rw [gr 19 (by decide) (by decide) j hjk, cj 19 (by decide) (by decide) (by decide)]
      exact j5 j hj
    · rw [g4.1 28 (by decide) (by decide), t3 28 (by decide)]
      exact hck28 i hi hd
    · rw [g4.2.2.1 27 (by decide) (by decide), tL]
      exact hck27 i hi
    · rw [g4.2.2.2 78 (by decide), tF 78 (by decide), cF 78 (by decide), g78]
    · rw [g4.2.2.2 79 (by decide), tF 79 (by decide), cF 79 (by decide), g79]
    · obtain ⟨⟨a1, a2, a3, a4, a5⟩, b', c, ⟨d1, d2, d3, d4, d5⟩, e1, e2, e3, e4⟩ := rs
      exact ⟨⟨by rw [g18 3 (by decide)]; exact a1, by rw [g18 4 (by decide)]; exact a2, by rw [g18 5 (by decide)]; exact a3, by rw [g18 6 (by decide)]; exact a4, by rw [g18 7 (by decide)]; exact a5⟩, fun f hf => by rw [g18 8 (by decide)]; exact b' f hf, by rw [g18 9 (by decide)]; exact c, ⟨by rw [g18 10 (by decide)]; exact d1, by rw [g18 11 (by decide)]; exact d2, by rw [g18 12 (by decide)]; exact d3, by rw [g18 13 (by decide)]; exact d4, by rw [g18 14 (by decide)]; exact d5⟩, by rw [g18 15 (by decide)]; exact e1, by rw [g18 16 (by decide)]; exact e2, by rw [g18 17 (by decide)]; exact e3, by rw [gL18]; exact e4⟩
    · rw [g4.2.2.2 88 (by decide)]
      exact t88
    · rw [g4.2.2.2 91 (by decide), tF 91 (by decide)]
      exact c91
  refine v_ild6 (q := 447) dX10_comeSession_445 rfl ?_
  by_cases hl0 : l = []
  · refine v_if_le (t := 480) (q := 450) dX10_comeSession_447 (by decide) rfl (fun _ => ?_) (fun z => absurd (by rw [hl0]; decide) z)
    refine fin v2 ws.length (unN s ky (nrB mi (sSp (xS X s))) ws) [] [] hnw (by rw [List.nil_append, List.append_nil]) un_len (Or.inl ⟨rfl, rfl⟩) (fun _ _ _ => rfl) (fun _ _ _ _ _ => rfl) (fun _ _ => rfl) rfl (fun _ _ => rfl) ?_ (Or.inl rfl)
    rw [cF 88 (by decide), g88, un_len]
    rfl
  · have hlpos : 0 < l.length := List.length_pos_iff.mpr hl0
    refine v_if_le (t := 480) (q := 450) dX10_comeSession_447 (by decide) rfl (fun z => absurd z (show ¬ nI l.length ≤ nI 0 from nI_ge hlpos (by omega))) (fun _ => ?_)
    have hk0 : l[0]? = some l[0] := List.getElem?_eq_getElem hlpos
    generalize l[0] = k0 at hk0
    have hk0l : k0 ∈ l := List.mem_of_getElem? hk0
    obtain ⟨hk0n, w0, es0, hw0, hnr0⟩ := hD k0 hk0l
    have hF2 : mI v2 36 0 = nI k0 := by
      rw [cj 36 (by decide) (by decide) (by decide)]
      exact jF 0 k0 hk0
    refine v_ald0 (q := 451) dX10_comeSession_450 rfl rfl ?_
    refine v_ild8 (q := 453) dX10_comeSession_451 rfl ?_
    refine v_ald0 (q := 454) dX10_comeSession_453 rfl rfl ?_
    refine w_ga (q := 457) (j := 36) dX10_comeSession_454 rfl hm (by decide) gf_X10_119_9 ?_
    refine v_iconst (q := 458) (v := 0) dX10_comeSession_457 rfl (by decide) ?_
    refine w_iald (q := 459) (n := 48100) dX10_comeSession_458 rfl hm (by decide) rfl rfl (show (0 : Int32) = nI 0 from rfl) (by omega) ?_
    rw [hF2]
    refine v_callV (q := 462) (d' := d + 3) (av := [.int (nI ws.length), .int (nI k0)]) dX10_comeSession_459 rfl ok_X10_move CL9 ml_X10_196 im_X10_move se_X10_move hm.1 (by omega) rfl rfl (Nat.le_of_ble_eq_true rfl) ?_
    refine q_move hm hnw (by omega) (by rw [cj 23 (by decide) (by decide) (by decide)]; exact w23) (fun v3 mv => ?_)
    obtain ⟨mv1, mv2, mvL, mvF⟩ := mv
    refine v_ald0 (q := 463) dX10_comeSession_462 rfl rfl ?_
    refine w_ga (q := 466) (j := 36) dX10_comeSession_463 rfl hm (by decide) gf_X10_119_9 ?_
    refine v_iconst (q := 467) (v := 0) dX10_comeSession_466 rfl (by decide) ?_
    refine w_iald (q := 468) (n := 48100) dX10_comeSession_467 rfl hm (by decide) rfl rfl (show (0 : Int32) = nI 0 from rfl) (by omega) ?_
    rw [mv2 36 (by decide), hF2]
    refine v_ist8 (q := 470) dX10_comeSession_468 rfl (by decide) rfl ?_
    refine v_ald0 (q := 471) dX10_comeSession_470 rfl rfl ?_
    refine v_dup (q := 472) dX10_comeSession_471 rfl rfl ?_
    refine w_gi (q := 475) dX10_comeSession_472 rfl hm gf_X10_170_9 ?_
    rw [mvF, cF 88 (by decide), g88]
    refine v_iconst (q := 476) (v := 1) dX10_comeSession_475 rfl (by decide) ?_
    refine v_isub (q := 477) dX10_comeSession_476 rfl ?_
    rw [show nI (ws.length + 1) - 1 = nI ws.length from by rw [show (1 : Int32) = nI 1 from rfl, nI_sub (by omega)]; rfl]
    refine w_pi (q := 480) dX10_comeSession_477 rfl hm pf_X10_170_9 ?_
    have hun0 := un_get (s := s) (ky := ky) (P := nrB mi (sSp (xS X s))) hw0
    rw [if_pos (show neO s ky (nrB mi (sSp (xS X s))) (some (s, ky, w0, es0)) = true by
      show (decide (s = s ∧ ky = ky) && nrB mi (sSp (xS X s)) w0) = true
      rw [decide_eq_true ⟨rfl, rfl⟩, hnr0]
      rfl)] at hun0
    have hkU : k0 < (unN s ky (nrB mi (sSp (xS X s))) ws).length := by rw [un_len]; exact hk0n
    have hspU : unN s ky (nrB mi (sSp (xS X s))) ws = (unN s ky (nrB mi (sSp (xS X s))) ws).take k0 ++ ([none] ++ (unN s ky (nrB mi (sSp (xS X s))) ws).drop (k0 + 1)) := by
      have e1 : (unN s ky (nrB mi (sSp (xS X s))) ws)[k0] = none := by
        rw [List.getElem?_eq_getElem hkU] at hun0
        exact Option.some.inj hun0
      rw [List.singleton_append, ← e1, ← List.drop_eq_getElem_cons hkU, List.take_append_drop]
    have hPl : ((unN s ky (nrB mi (sSp (xS X s))) ws).take k0).length = k0 := by rw [List.length_take]; omega
    refine fin (sF v3 88 (nI ws.length)) k0 _ [none] _ (by omega) hspU hPl (Or.inr rfl) (fun r h1 h2 => ?_) (fun r h1 h2 j hj => ?_) (fun j hj => ?_) ?_ (fun f hf => ?_) ?_ (Or.inr hk0l)
    · rw [mI_sF, mv1 r h1 h2, upR_at]
    · rw [mI_sF, mv1 r h1 h2, upR_ne _ _ hj]
    · rw [mI_sF, mv2 j hj]
    · rw [mL_sF, mvL]
    · rw [mF_sF, if_neg hf, mvF]
    · rw [mF_sF, if_pos rfl, hPl, List.length_drop, un_len]
      congr 1
      omega
end LD1
