/-! B7: the model: leftRow -/
def fnF (l : List Nat) (i : Nat) : Nat := (l[i]?).getD 0
theorem fnF_map (l : List Nat) : (List.range l.length).map (fnF l) = l := by
  refine List.ext_getElem (by rw [List.length_map, List.length_range]) (fun i h1 h2 => ?_)
  rw [List.getElem_map, List.getElem_range]
  unfold fnF
  rw [List.getElem?_eq_getElem h2]
  rfl
theorem fnF_mem {l : List Nat} {i : Nat} (hi : i < l.length) : fnF l i ∈ l := by
  unfold fnF
  rw [List.getElem?_eq_getElem hi]
  exact List.getElem_mem hi
section LB7
variable {g : Gl} {d : Nat} {h : Hp} {m : Nat} {u : Mu} {Q : Option Value → Hp → Prop} {X : Sg} {ws : List (Option Mw)}
theorem FO.fa {v : Mu} {l : List Nat} (h : FO v l) : FA v (fnF l) l.length := fun i hi => by
  unfold fnF
  rw [List.getElem?_eq_getElem hi]
  exact h i _ (List.getElem?_eq_getElem hi)
theorem fnd_D {s : Nat} {P : Wd → Bool} {k : Nat} (hk : k ∈ fnd ws s P ws.length) : ∃ ky w es, ws[k]? = some (some (s, ky, w, es)) ∧ P w = true := by
  obtain ⟨h1, h2⟩ := List.mem_filter.mp hk
  have hl : k < ws.length := List.mem_range.mp h1
  rw [List.getElem?_eq_getElem hl] at h2 ⊢
  have h2 : isP s P ws[k] = true := h2
  generalize ws[k] = o at h2
  match o, h2 with
  | some (s', ky, w, es), h2 =>
    have h3 : (decide (s' = s) && P w) = true := h2
    rw [Bool.and_eq_true, decide_eq_true_iff] at h3
    obtain ⟨rfl, h4⟩ := h3
    exact ⟨ky, w, es, rfl, h4⟩
/-- found windows, once they are in order by K, are those of the mill in order -/
theorem found_sorted {s n : Nat} {P : Wd → Bool} {F' : Nat → Nat} {K : Nat × Wd → Int} (hw : MRw u X ws) (hs : s < xM X) (hW : isW (xS X s) = true) (hn : n = (fnd ws s P ws.length).length) (hc : ∀ y, cN F' n y = cN (fnF (fnd ws s P ws.length)) n y) (ho : ∀ i j, i < j → j < n → K (gt ws (F' i)) ≤ K (gt ws (F' j))) :
    ((List.range n).map F').Perm (fnd ws s P ws.length) ∧ (((List.range n).map F').map (gt ws)).Perm (spL P (gL (xS X s)) 1000) ∧ (((List.range n).map F').map (gt ws)).Pairwise (fun x y => K x ≤ K y) := by
  have hp := cN_perm hc
  subst hn
  rw [fnF_map] at hp
  refine ⟨hp, (hp.map _).trans (found_perm hw hs hW), ?_⟩
  rw [List.pairwise_map, List.pairwise_map, List.pairwise_iff_getElem]
  intro i j hi hj hij
  rw [List.length_range] at hi hj
  rw [List.getElem_range, List.getElem_range]
  exact ho i j hij hj
theorem lanes_sortedK {s : Nat} (hS : SI X) (hs : s < xM X) (hW : isW (xS X s) = true) (P : Wd → Bool) : (spL P (gL (xS X s)) 1000).Pairwise (fun x y => kyK x < kyK y) := by
  obtain ⟨hO, hL, _⟩ := (hS.1 s hs).1 hW
  obtain ⟨B1, B2, B3, B4, _⟩ := hO.1
  refine spL_sorted (fun ky hk => ?_) (fun ky ky' hlt hk x hx y hy => ?_) 1000 (Nat.le_refl _)
  · have hp := (hL ky hk).2
    have hb := (hL ky hk).1
    refine hp.imp_of_mem (fun {x y} hx hy h1 => ?_)
    have b1 := hb x hx
    have b2 := hb y hy
    unfold kyK
    show ((ky : Int) * 131072 + ((wB x).toInt + 10000)) * 1048576 + (wE x).toInt < ((ky : Int) * 131072 + ((wB y).toInt + 10000)) * 1048576 + (wE y).toInt
    omega
  · have b1 := (hL ky (by omega)).1 x hx
    have b2 := (hL ky' hk).1 y hy
    unfold kyK
    show ((ky : Int) * 131072 + ((wB x).toInt + 10000)) * 1048576 + (wE x).toInt < ((ky' : Int) * 131072 + ((wB y).toInt + 10000)) * 1048576 + (wE y).toInt
    omega
theorem q_leftRow {s i : Int32} (hm : MK h m) (hR : MR u X ws) (hS : SI X) (h16 : xM X ≤ 16) (hn : ws.length < 48100) (hr : (xR X).length < 200000)
    (hQ : ∀ v', Scr u v' → Q (some (.int (aLeftRow X s i))) (mh h m v')) : Call g mX10_leftRow (d + 2) [.ref m, .int s, .int i] (mh h m u) Q := by
  refine Call.of [.ref m, .int s, .int i, zz] (by decide) (Nat.le_of_ble_eq_true rfl) rfl ?_
  refine v_ald0 (q := 1) dX10_leftRow_0 rfl rfl ?_
  refine v_ild1 (q := 2) dX10_leftRow_1 rfl ?_
  refine v_callV (q := 5) (d' := d + 1) (av := [.int s]) dX10_leftRow_2 rfl ok_X10_is CL9 ml_X10_134 im_X10_is se_X10_is hm.1 (by omega) rfl rfl (Nat.le_of_ble_eq_true rfl) ?_
  refine q_isS hm hR.1 h16 (fun j ej hj => ?_) (fun hi => ?_)
  · subst ej
    have eA : aLeftRow X (nI j) i = if isW (xS X j) then (if i < 0 then -1 else ((lefts (gL (xS X j)) 0 1000)[i.toNatClampNeg]?.map nI).getD (-1)) else -1 := onS_in h16 hj
    rw [eA] at hQ
    refine v_if_eq (t := 16) (q := 8) dX10_leftRow_5 (by decide) rfl (fun hc => absurd hc (by decide)) (fun _ => ?_)
    refine v_ald0 (q := 9) dX10_leftRow_8 rfl rfl ?_
    refine v_ild1 (q := 10) dX10_leftRow_9 rfl ?_
    refine v_callV (q := 13) (d' := d + 1) (av := [.int (nI j)]) dX10_leftRow_10 rfl ok_X10_isWindowed CL9 ml_X10_130 im_X10_isWindowed se_X10_isWindowed hm.1 (by omega) rfl rfl (Nat.le_of_ble_eq_true rfl) ?_
    refine q_isW hm hR.1 h16 hj ?_
    by_cases hW : isW (xS X j) = true
    · rw [if_pos hW] at hQ
      rw [if_pos hW]
      refine v_if_ne (t := 18) (q := 16) dX10_leftRow_13 (by decide) rfl (fun _ => ?_) (fun hc => absurd hc (by decide))
      refine v_ald0 (q := 19) dX10_leftRow_18 rfl rfl ?_
      refine v_ild1 (q := 20) dX10_leftRow_19 rfl ?_
      refine v_callV (q := 23) (d' := d + 1) (av := [.int (nI j)]) dX10_leftRow_20 rfl ok_X10_findLeft CL9 ml_X10_246 im_X10_findLeft se_X10_findLeft hm.1 (by omega) rfl rfl (Nat.le_of_ble_eq_true rfl) ?_
      refine q_findLeft hm hR hS h16 (by omega) hn hr (fun v hv hF => ?_)
      have hlen : (lefts (gL (xS X j)) 0 1000).length = (fnd ws j (fun w => (wR w).isSome) ws.length).length := by
        rw [lrw_spL, List.length_map, ← (found_perm hR.2.2 hj hW (P := fun w => (wR w).isSome)).length_eq, List.length_map]
      have hfl := fnd_len ws j (fun w => (wR w).isSome) ws.length
      generalize hl : fnd ws j (fun w => (wR w).isSome) ws.length = l at *
      refine v_ist3 (q := 24) dX10_leftRow_23 rfl (by decide) rfl ?_
      refine v_ild2 (q := 25) dX10_leftRow_24 rfl ?_
      by_cases i0 : i < 0
      · rw [if_pos i0] at hQ
        refine v_if_lt (t := 33) (q := 28) dX10_leftRow_25 (by decide) rfl (fun _ => ?_) (fun hc => absurd i0 hc)
        refine v_iconst (q := 34) (v := -1) dX10_leftRow_33 rfl (by decide) ?_
        refine v_iret dX10_leftRow_34 rfl ?_
        exact hQ v hv
      rw [if_neg i0] at hQ
      refine v_if_lt (t := 33) (q := 28) dX10_leftRow_25 (by decide) rfl (fun hc => absurd hc i0) (fun _ => ?_)
      obtain ⟨a, ha, rfl⟩ := nI_of i0
      rw [nI_clamp ha] at hQ
      refine v_ild2 (q := 29) dX10_leftRow_28 rfl ?_
      refine v_ild3 (q := 30) dX10_leftRow_29 rfl ?_
      by_cases hal : ¬ a < l.length
      · refine v_icmp_lt (t := 35) (q := 33) dX10_leftRow_30 (by decide) rfl (fun hc => absurd hc (nI_nlt (by omega) ha)) (fun _ => ?_)
        rw [List.getElem?_eq_none (by omega)] at hQ
        refine v_iconst (q := 34) (v := -1) dX10_leftRow_33 rfl (by decide) ?_
        refine v_iret dX10_leftRow_34 rfl ?_
        exact hQ v hv
      have hal := Classical.not_not.mp hal
      refine v_icmp_lt (t := 35) (q := 33) dX10_leftRow_30 (by decide) rfl (fun _ => ?_) (fun hc => absurd (nI_lt hal (by omega)) hc)
      refine v_ald0 (q := 36) dX10_leftRow_35 rfl rfl ?_
      refine v_ild3 (q := 37) dX10_leftRow_36 rfl ?_
      refine v_iconst (q := 38) (v := 0) dX10_leftRow_37 rfl (by decide) ?_
      refine v_callV (q := 41) (d' := d + 1) (av := [.int (nI l.length), .int 0]) dX10_leftRow_38 rfl ok_X10_order CL9 ml_X10_207 im_X10_order se_X10_order hm.1 (by omega) rfl rfl (Nat.le_of_ble_eq_true rfl) ?_
      have hD : ∀ x, Dw ws x → x < 48100 := fun x ⟨s', ky, w, es, hx⟩ => by
        have := (List.getElem?_eq_some_iff.mp hx).1
        omega
      refine q_order (d := d) (be := false) (u := u) (ky := fun x => kyK (gt ws x)) (D := Dw ws) hm (by omega) hD (fun x y hx hy => cmp_K hR.2.2 hS hx hy) hv hF.fa (fun i hi => ?_) (fun v' F' hv' hF' hc ho => ?_)
      · obtain ⟨ky, w, es, hx, _⟩ := fnd_D (s := j) (P := fun w => (wR w).isSome) (ws := ws) (k := fnF l i) (by rw [hl]; exact fnF_mem hi)
        exact ⟨j, ky, w, es, hx⟩
      obtain ⟨p1, p2, p3⟩ := found_sorted (K := kyK) (P := fun w => (wR w).isSome) hR.2.2 hj hW (by rw [hl]) (by rw [hl]; exact hc) ho
      rw [hl] at p1
      have e1 := sorted_uniq p2 p3 (lanes_sortedK hS hj hW _)
      have e2 : (lefts (gL (xS X j)) 0 1000)[a]? = some ((wR (gt ws (F' a)).2).getD 0) := by
        rw [lrw_spL, ← e1, List.map_map, List.map_map, List.getElem?_map, List.getElem?_range hal]
        rfl
      have hmem : F' a ∈ l := p1.mem_iff.mp (List.mem_map.mpr ⟨a, List.mem_range.mpr hal, rfl⟩)
      obtain ⟨ky, w, es, hx, hsome⟩ := fnd_D (s := j) (P := fun w => (wR w).isSome) (ws := ws) (k := F' a) (by rw [hl]; exact hmem)
      have hxl := (List.getElem?_eq_some_iff.mp hx).1
      have hk := hR.2.2.2.1 (F' a) _ hx
      rw [e2, gt_at hx] at hQ
      refine v_ald0 (q := 42) dX10_leftRow_41 rfl rfl ?_
      refine w_ga (q := 45) (j := 24) dX10_leftRow_42 rfl hm (by decide) gf_X10_82_9 ?_
      refine v_ald0 (q := 46) dX10_leftRow_45 rfl rfl ?_
      refine w_ga (q := 49) (j := 36) dX10_leftRow_46 rfl hm (by decide) gf_X10_119_9 ?_
      refine v_ild2 (q := 50) dX10_leftRow_49 rfl ?_
      refine w_iald (q := 51) (n := 48100) dX10_leftRow_50 rfl hm (by decide) rfl rfl rfl (by omega) ?_
      rw [hF' a hal]
      refine w_iald (q := 52) (n := 48100) dX10_leftRow_51 rfl hm (by decide) rfl rfl rfl (by omega) ?_
      rw [hv'.1 24 (by decide), hk.2.2.2.2.2.1]
      refine v_iret dX10_leftRow_52 rfl ?_
      obtain ⟨r, hr'⟩ := Option.isSome_iff_exists.mp hsome
      have := hQ v' hv'
      rw [show wR (ky, w).2 = some r from hr'] at this
      rw [hr']
      exact this
    · rw [if_neg hW] at hQ
      rw [if_neg hW]
      refine v_if_ne (t := 18) (q := 16) dX10_leftRow_13 (by decide) rfl (fun hc => absurd rfl hc) (fun _ => ?_)
      refine v_iconst (q := 17) (v := -1) dX10_leftRow_16 rfl (by decide) ?_
      refine v_iret dX10_leftRow_17 rfl ?_
      exact hQ u (Scr.rf u)
  · have eA : aLeftRow X s i = -1 := onS_out hi
    rw [eA] at hQ
    refine v_if_eq (t := 16) (q := 8) dX10_leftRow_5 (by decide) rfl (fun _ => ?_) (fun hc => absurd rfl hc)
    refine v_iconst (q := 17) (v := -1) dX10_leftRow_16 rfl (by decide) ?_
    refine v_iret dX10_leftRow_17 rfl ?_
    exact hQ u (Scr.rf u)
end LB7
