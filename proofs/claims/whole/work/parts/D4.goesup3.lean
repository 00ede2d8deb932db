/-! D4: the model: goesUp, whole -/
theorem xSet_id (X : Sg) (s : Nat) : xSet X s (lnS (xS X s) (gL (xS X s))) (xR X) = X := by
  show (xM X, xT X, xR X, xP X, xI X, upR (xS X) s (xS X s)) = X
  rw [upR_id]
  rfl
theorem slo_spL (P : Wd → Bool) (ln : Nat → List Wd) : slo P ln = (spL P ln 1000).map (fun x => sSl x.1 x.2) := by
  unfold slo spL
  rw [List.map_flatMap]
  congr 1
  funext k
  rw [List.map_map]
  rfl
section LD4
variable {g : Gl} {d : Nat} {h : Hp} {m : Nat} {Q : Option Value → Hp → Prop} {X : Sg} {ws : List (Option Mw)} {s : Nat}
theorem fnd_nodup (ws : List (Option Mw)) (s : Nat) (P : Wd → Bool) (n : Nat) : (fnd ws s P n).Nodup := List.Pairwise.filter _ List.nodup_range
theorem q_goesUp {u u1 : Mu} {to : Int32} (hm : MK h m) (hR : MR u X ws) (hS : SI X) (h16 : xM X ≤ 16) (hs : s < xM X) (hW : isW (xS X s) = true) (hE : tot entS X ≤ 48000) (hlen : ∀ s ky w es, some (s, ky, w, es) ∈ ws → es.length ≤ 12000) (hrb : (xR X).length + 2 * sm (cD (gI (xS X s) 1)) (gL (xS X s)) + 2 < 200000) (hto : (gI (xS X s) 1).toInt ≤ to.toInt) (hto2 : to.toInt ≤ 200000)
    (e1 : ∀ j, j ≠ 6 → mI u1 j = mI u j) (e6 : mI u1 6 = upR (mI u 6) s to) (eL : mL u1 = mL u) (eF : mF u1 = mF u)
    (hQ : ∀ v' ws', MR v' (riseG X s to) ws' → Q none (mh h m v')) : Call g mX10_goesUp (d + 4) [.ref m, .int (nI s), .int (gI (xS X s) 1)] (mh h m u1) Q := by
  obtain ⟨hO, hL, h8, _⟩ := (hS.1 s hs).1 hW
  obtain ⟨hBd, o20, o22, o23, okd⟩ := id hO
  obtain ⟨B1, B2, B3, B4, B5, B6, B7, B8, B9, B10, B11, B12⟩ := id hBd
  have hw1 : MRw u1 X ws := hR.2.2.same (fun j h1 h2 => e1 j (by omega)) (by rw [eL]) (by rw [eF]) (by rw [eF])
  have hr1 : MRr u1 (xR X) := hR.2.1.same (fun j h1 h2 => e1 j (by omega)) (by rw [eL]) (by rw [eF])
  have hn := mw_n hw1 hE
  have rs := hR.1.2.2.1 s hs
  have hsty0 : 0 ≤ sSty (xS X s) := by
    unfold sSty styI
    split <;> omega
  have h6 : mI u1 6 s = to := by rw [e6, upR_at]
  refine Call.of [.ref m, .int (nI s), .int (gI (xS X s) 1), zz, zz, zz] (by decide) (Nat.le_of_ble_eq_true rfl) rfl ?_
  refine v_iconst (q := 1) (v := 0) dX10_goesUp_0 rfl (by decide) ?_
  refine v_ist3 (q := 2) dX10_goesUp_1 rfl (by decide) rfl ?_
  refine v_iconst (q := 3) (v := 0) dX10_goesUp_2 rfl (by decide) ?_
  refine v_ist4 (q := 5) dX10_goesUp_3 rfl (by decide) rfl ?_
  refine gu_find (d := d) hm hw1 h16 hs hn h6 rfl hsty0 ws.length 0 u1 (Nat.zero_add _) (Scr.rf u1) (fun i k hi => by cases hi) (fun v hc hF => ?_)
  have hfl := fnd_len ws s (psB (gI (xS X s) 1) to) ws.length
  have hfn : (fnd ws s (psB (gI (xS X s) 1) to) ws.length).length ≤ sm (cD (gI (xS X s) 1)) (gL (xS X s)) := by
    rw [fnd_sum, ← sm_smG hw1 hs hW (fun L => smG (fun w => if psB (gI (xS X s) 1) to w then 1 else 0) L) _ (fun _ => rfl)]
    unfold sm
    refine fb_sm_le (fun k _ => ?_)
    have key : ∀ L : List Wd, (L.map (fun w => if psB (gI (xS X s) 1) to w = true then 1 else 0)).sum ≤ L.countP (fun x => decide (gI (xS X s) 1 < wE x)) := fun L => by
      induction L with
      | nil => exact Nat.le_refl _
      | cons w L ih =>
        rw [List.map_cons, List.sum_cons, List.countP_cons]
        by_cases hp : psB (gI (xS X s) 1) to w = true
        · have := (of_decide_eq_true hp).1
          rw [if_pos hp, if_pos (decide_eq_true this)]
          omega
        · rw [if_neg hp]
          omega
    exact key _
  have hfnd := fnd_nodup ws s (psB (gI (xS X s) 1) to) ws.length
  generalize hl : fnd ws s (psB (gI (xS X s) 1) to) ws.length = l at *
  refine v_ald0 (q := 80) dX10_goesUp_79 rfl rfl ?_
  refine v_ild3 (q := 81) dX10_goesUp_80 rfl ?_
  refine v_iconst (q := 82) (v := 1) dX10_goesUp_81 rfl (by decide) ?_
  refine v_callV (q := 85) (d' := d + 3) (av := [.int (nI l.length), .int 1]) dX10_goesUp_82 rfl ok_X10_order CL9 ml_X10_207 im_X10_order se_X10_order hm.1 (by omega) rfl rfl (Nat.le_of_ble_eq_true rfl) ?_
  have hD : ∀ x, Dw ws x → x < 48100 := fun x ⟨s', ky, w, es, hx⟩ => by
    have := (List.getElem?_eq_some_iff.mp hx).1
    omega
  refine q_order (d := d + 2) (be := true) (u := u1) (ky := fun x => kyE (gt ws x)) (D := Dw ws) hm (by omega) hD (fun x y hx hy => cmp_E hw1 hS hx hy) hc hF.fa (fun i hi => ?_) (fun v1 F hv1 hF1 hcn ho => ?_)
  · obtain ⟨ky, w, es, hx, _⟩ := fnd_D (s := s) (P := psB (gI (xS X s) 1) to) (ws := ws) (k := fnF l i) (by rw [hl]; exact fnF_mem hi)
    exact ⟨s, ky, w, es, hx⟩
  obtain ⟨p1, p2, p3⟩ := found_sorted (K := kyE) (P := psB (gI (xS X s) 1) to) hw1 hs hW (by rw [hl]) (by rw [hl]; exact hcn) ho
  rw [hl] at p1
  have hmemF : ∀ i, i < l.length → F i ∈ l := fun i hi => p1.mem_iff.mp (List.mem_map.mpr ⟨i, List.mem_range.mpr hi, rfl⟩)
  have hFD : ∀ i, i < l.length → ∃ ky w es, ws[F i]? = some (some (s, ky, w, es)) := fun i hi => by
    obtain ⟨ky, w, es, hx, _⟩ := fnd_D (s := s) (P := psB (gI (xS X s) 1) to) (ws := ws) (k := F i) (by rw [hl]; exact hmemF i hi)
    exact ⟨ky, w, es, hx⟩
  have hnd : ∀ i j, i < j → j < l.length → F i ≠ F j := fun i j hij hj => by
    have hn1 := p1.nodup_iff.mpr hfnd
    have := List.pairwise_iff_getElem.mp hn1 i j (by rw [List.length_map, List.length_range]; omega) (by rw [List.length_map, List.length_range]; omega) hij
    rw [List.getElem_map, List.getElem_map, List.getElem_range, List.getElem_range] at this
    exact this
  have hslots : (List.range' 0 l.length).map (fun j => sSl (gt ws (F j)).1 (gt ws (F j)).2) = srt (slo (fun w => decide (gI (xS X s) 1 < wE w ∧ wE w ≤ to)) (gL (xS X s))) := by
    have e0 : (List.range' 0 l.length).map (fun j => sSl (gt ws (F j)).1 (gt ws (F j)).2) = (((List.range l.length).map F).map (gt ws)).map (fun x => sSl x.1 x.2) := by
      rw [List.map_map, List.map_map, List.range_eq_range']
      rfl
    rw [e0]
    refine sorted_eq ?_ (srt_sorted _) ?_
    · rw [List.pairwise_map]
      refine p3.imp_of_mem (fun {x y} hx hy hxy => ?_)
      have bd : ∀ z ∈ ((List.range l.length).map F).map (gt ws), (sSl z.1 z.2).toInt = kyE z := fun z hz => by
        obtain ⟨k, hk, rfl⟩ := List.mem_map.mp hz
        obtain ⟨i, hi, rfl⟩ := List.mem_map.mp hk
        obtain ⟨ky, w, es, hxw⟩ := hFD i (List.mem_range.mp hi)
        rw [gt_at hxw]
        have hmm := List.mem_of_getElem? hxw
        have hky := (hw1.2.2.1 s ky w es hmm).2.2
        unfold sSl kyE
        exact slot_int ((hL ky hky).vb B4 (mw_lane hw1 hmm)) hky
      rw [fa_le64, bd x hx, bd y hy]
      exact hxy
    · refine List.Perm.trans ?_ (srt_perm _).symm
      rw [slo_spL]
      exact p2.map _
  refine v_iconst (q := 86) (v := 0) dX10_goesUp_85 rfl (by decide) ?_
  refine v_ist4 (q := 88) dX10_goesUp_86 rfl (by decide) rfl ?_
  have hX0 := xSet_id X s
  refine gu_give (d := d) (X := X) (u := u1) (ws0 := ws) (F := F) hm h16 hs hW hO (by omega) (by rw [e1 12 (by decide)]; exact rs.2.2.2.1.2.2.1) hE hlen hFD hnd l.length 0 v1 (gL (xS X s)) (xR X) ws (Nat.zero_add _) ?_ (hr1.scr hv1) hL (fun j hj => hv1.1 j (by omega)) (hv1.2.1 18 (by decide)) ⟨by rw [hv1.2.2], by rw [hv1.2.2]⟩ hF1 (fun _ _ _ => rfl) rfl hlen (by omega) (by rw [hX0]) (fun v2 ln2 rows2 ws2 e2 w2 r2 b18 bL bF hwl2 hI2 => ?_)
  · rw [hX0]
    exact hw1.same (fun j h1 h2 => hv1.1 j (by omega)) (hv1.2.1 27 (by decide)) (by rw [hv1.2.2]) (by rw [hv1.2.2])
  rw [hslots] at e2
  have eR : riseG X s to = xSet X s (upR (gI (xS X s)) 1 to, gV (xS X s), gF (xS X s), ln2) rows2 := by
    unfold riseG
    rw [if_pos hW]
    have : (ln2, rows2) = rsS s (sHow (xS X s)) (gI (xS X s) 1) to (gL (xS X s), xR X) := e2
    rw [← this]
  have q3 : mI v2 3 s = gI (xS X s) 3 := by rw [b18 3 (by decide), e1 3 (by decide)]; exact rs.1.1
  have q4 : mI v2 4 s = gI (xS X s) 6 := by rw [b18 4 (by decide), e1 4 (by decide)]; exact rs.1.2.1
  have q13 : mI v2 13 s = gI (xS X s) 21 := by rw [b18 13 (by decide), e1 13 (by decide)]; exact rs.2.2.2.1.2.2.2.1
  have q6 : mI v2 6 s = to := by rw [b18 6 (by decide)]; exact h6
  have hY1 : ∀ j, gI (xS (xSet X s (lnS (xS X s) ln2) rows2) s) j = gI (xS X s) j := fun j => by rw [xS_set]; rfl
  have hY2 : sSty (xS (xSet X s (lnS (xS X s) ln2) rows2) s) = sSty (xS X s) := by rw [xS_set]; rfl
  refine v_iconst (q := 112) (v := 0) dX10_goesUp_111 rfl (by decide) ?_
  refine v_ist4 (q := 114) dX10_goesUp_112 rfl (by decide) rfl ?_
  refine gu_there (d := d) (X := X) (Y := xSet X s (lnS (xS X s) ln2) rows2) (Y' := riseG X s to) (to := to) hm h16 (by omega) (by omega) w2 q6 (by rw [hY1]; exact q3) (by rw [hY1]; exact q4) (by rw [hY1]; exact q13) (by rw [hY1]; exact hto) h16 (fun t ht => ?_) ⟨?_, ?_⟩ (fun ky w es hx => ?_) ws2.length 0 v2 (Nat.zero_add _) (fun _ _ => rfl) rfl rfl (fun _ _ => rfl) (fun j o hj => absurd hj (Nat.not_lt_zero _)) (fun v3 c1 cL cF cM => ?_)
  · rw [eR, xS_set_ne X _ _ ht, xS_set_ne X _ _ ht]
    exact ⟨rfl, rfl⟩
  · rw [eR, xS_set, hY2]
    rfl
  · rw [eR, xS_set]
    rfl
  · have hky := (w2.2.2.1 s ky w es hx).2.2
    have hwl := mw_lane w2 hx
    rw [xS_set] at hwl
    have hb := (hI2 ky hky).1 w hwl
    rw [hY1, hY1, hY1, hY2]
    unfold sSty styI
    by_cases h6' : gI (xS X s) 3 = 6
    · have hses : sSes (xS X s) = true := decide_eq_true h6'
      have hsp := sp_ses hses
      have ea : (gI (xS X s) 6).toInt = (sSp (xS X s)).toInt - 1 := by
        have : gI (xS X s) 6 = sSp (xS X s) - 1 := by rw [hsp, Int32.add_sub_cancel]
        rw [this, Int32.toInt_sub, i32_1]
        exact Int.bmod_eq_of_le (by omega) (by omega)
      rw [if_pos h6', if_pos hses, i32_add (by rw [i32_add (by omega) (by omega)]; omega) (by rw [i32_add (by omega) (by omega)]; omega), i32_add (by omega) (by omega), ea]
      omega
    · have hses : ¬ sSes (xS X s) = true := fun z => h6' (of_decide_eq_true z)
      rw [if_neg h6', if_neg hses, i32_add (by omega) (by omega)]
      omega
  · have d18 : ∀ j, j ≤ 18 → mI v3 j = mI u1 j := fun j hj => (c1 j (by omega)).trans (b18 j hj)
    have f1 : mF v3 78 = mF u 78 := by rw [cF, bF.1, eF]
    have f2 : mF v3 79 = mF u 79 := by rw [cF, bF.2, eF]
    have l18 : mL v3 18 = mL u 18 := by rw [cL, bL, eL]
    refine hQ v3 ws2 ?_
    rw [eR] at cM ⊢
    refine ⟨hR.1.set ⟨by rw [d18 1 (by decide), e1 1 (by decide)], by rw [d18 2 (by decide), e1 2 (by decide)]⟩ (fun j h1 h2 h3 i hi => ?_) (fun t ht f hf => by rw [d18 8 (by decide), e1 8 (by decide)]) (fun i hi => by rw [l18]) f1 f2 hs ?_, r2.same (fun j h1 h2 => c1 j (by omega)) (by rw [cL]) (by rw [cF]), ?_⟩
    · rw [d18 j (by omega)]
      by_cases e : j = 6
      · subst e
        rw [e6, upR_ne _ _ hi]
      · rw [e1 j e]
    · obtain ⟨⟨a1, a2, a3, a4, a5⟩, b', c, ⟨d1, d2, d3, d4, d5⟩, x1, x2, x3, x4⟩ := rs
      have q : ∀ j, j ≤ 18 → j ≠ 6 → mI v3 j = mI u j := fun j h1 h2 => (d18 j h1).trans (e1 j h2)
      exact ⟨⟨by rw [q 3 (by decide) (by decide)]; exact a1, by rw [q 4 (by decide) (by decide)]; exact a2, by rw [q 5 (by decide) (by decide)]; exact a3, by rw [d18 6 (by decide), h6]; rfl, by rw [q 7 (by decide) (by decide)]; exact a5⟩, fun f hf => by rw [q 8 (by decide) (by decide)]; exact b' f hf, by rw [q 9 (by decide) (by decide)]; exact c, ⟨by rw [q 10 (by decide) (by decide)]; exact d1, by rw [q 11 (by decide) (by decide)]; exact d2, by rw [q 12 (by decide) (by decide)]; exact d3, by rw [q 13 (by decide) (by decide)]; exact d4, by rw [q 14 (by decide) (by decide)]; exact d5⟩, by rw [q 15 (by decide) (by decide)]; exact x1, by rw [q 16 (by decide) (by decide)]; exact x2, by rw [q 17 (by decide) (by decide)]; exact x3, by rw [l18]; exact x4⟩
    · obtain ⟨a, b, c, e, ⟨ne, y1, y2, y3, y4⟩, n⟩ := w2
      have hXY : ∀ t, isW (xS (xSet X s (upR (gI (xS X s)) 1 to, gV (xS X s), gF (xS X s), ln2) rows2) t) = isW (xS (xSet X s (lnS (xS X s) ln2) rows2) t) ∧ gL (xS (xSet X s (upR (gI (xS X s)) 1 to, gV (xS X s), gF (xS X s), ln2) rows2) t) = gL (xS (xSet X s (lnS (xS X s) ln2) rows2) t) := fun t => by
        by_cases et : t = s
        · subst et
          rw [xS_set, xS_set]
          exact ⟨rfl, rfl⟩
        · rw [xS_set_ne X _ _ et, xS_set_ne X _ _ et]
          exact ⟨rfl, rfl⟩
      have het : tot entS (xSet X s (upR (gI (xS X s)) 1 to, gV (xS X s), gF (xS X s), ln2) rows2) = tot entS (xSet X s (lnS (xS X s) ln2) rows2) := by
        have t1 := tot_set entS X hs (upR (gI (xS X s)) 1 to, gV (xS X s), gF (xS X s), ln2) rows2
        have t2 := tot_set entS X hs (lnS (xS X s) ln2) rows2
        have g1 : entS (upR (gI (xS X s)) 1 to, gV (xS X s), gF (xS X s), ln2) = sm vN ln2 := if_pos hW
        have g2 : entS (lnS (xS X s) ln2) = sm vN ln2 := if_pos hW
        omega
      exact ⟨by rw [cF]; exact a, cM, fun s' k' w' es' hx => by rw [(hXY s').1]; exact c s' k' w' es' hx, fun s' hs' hW' k' hk' => by rw [(hXY s').2]; rw [(hXY s').1] at hW'; exact e s' hs' hW' k' hk', ⟨ne, by rw [cF]; exact y1, y2, by rw [het]; exact y3, y4⟩, n⟩
end LD4
